-- A COURT, ON BOTH SIDES
def cB (F : Nat) (m_now : Nat → Int32) (m_tape : Nat → Int32) (m_typed : Int32) (m_read : Nat → Int32) (m_undos : Int32) (r1 r10 w16 w17 : Int32) : Option (Int32 × (Nat → Int32) × Int32 × Int32 × Int32 × (Nat → Int32) × Int32) :=
  sx_c4 (fnX5_readPersons F m_tape m_typed w16 w17 m_read) (fun (r19 : Int32) (w20 : Int32) (w21 : Int32) (w22 : Nat → Int32) => sx_lt (fun (y24 : Int32) (z25 : Int32) => sx_gd (sx_bl y24) ((if y24 = 0 then sx_lp3 (bdX5_court_157 F r1 r19 (0 : Int32) z25 y24 w22) F (0 : Int32) (upd (upd (upd (upd m_now ((0 : Int32)).toNatClampNeg (0 : Int32)) ((1 : Int32)).toNatClampNeg (0 : Int32)) ((2 : Int32)).toNatClampNeg r1) ((3 : Int32)).toNatClampNeg r10) m_undos else (some (((-20 : Int32) - z25), m_now, (0 : Int32), z25, y24, w22, m_undos))))) (fun (k_103 : Int32 → Int32 → Option (Int32 × (Nat → Int32) × Int32 × Int32 × Int32 × (Nat → Int32) × Int32)) => (if w21 = 0 then sx_c2 (fnX5_here F m_tape m_typed w20) (fun (r47 : Int32) (w48 : Int32) => (if r47 = 0 then (k_103 (0 : Int32) w48) else (k_103 (1 : Int32) w48))) else (k_103 (1 : Int32) w20))))
def cA (F : Nat) (m_now : Nat → Int32) (m_tape : Nat → Int32) (m_typed : Int32) (m_read : Nat → Int32) (m_undos : Int32) (r1 w7 w8 : Int32) : Option (Int32 × (Nat → Int32) × Int32 × Int32 × Int32 × (Nat → Int32) × Int32) :=
  sx_c3 (fnX5_number F m_tape m_typed w7 w8 (2 : Int32) (30 : Int32) (2 : Int32)) (fun (r10 : Int32) (w11 : Int32) (w12 : Int32) => sx_lt (fun (y14 : Int32) (z15 : Int32) => sx_c2 (fnX5_must F z15 w12 y14) (fun (w16 : Int32) (w17 : Int32) => cB F m_now m_tape m_typed m_read m_undos r1 r10 w16 w17)) (fun (k_75 : Int32 → Int32 → Option (Int32 × (Nat → Int32) × Int32 × Int32 × Int32 × (Nat → Int32) × Int32)) => (if w12 = 0 then sx_c2 (fnX5_here F m_tape m_typed w11) (fun (r52 : Int32) (w53 : Int32) => (if r52 = (59 : Int32) then (k_75 (1 : Int32) w53) else (k_75 (0 : Int32) w53))) else (k_75 (0 : Int32) w11))))
theorem cO (F : Nat) (m_now : Nat → Int32) (m_tape : Nat → Int32) (m_typed : Int32) (m_place : Int32) (m_isFault : Int32) (m_read : Nat → Int32) (m_undos : Int32) : fnX5_court F m_now m_tape m_typed m_place m_isFault m_read m_undos =
  sx_c3 (fnX5_number F m_tape m_typed (0 : Int32) (0 : Int32) (1 : Int32) (9 : Int32) (1 : Int32)) (fun (r1 : Int32) (w2 : Int32) (w3 : Int32) => sx_lt (fun (y5 : Int32) (z6 : Int32) => sx_c2 (fnX5_must F z6 w3 y5) (fun (w7 : Int32) (w8 : Int32) => cA F m_now m_tape m_typed m_read m_undos r1 w7 w8)) (fun (k_41 : Int32 → Int32 → Option (Int32 × (Nat → Int32) × Int32 × Int32 × Int32 × (Nat → Int32) × Int32)) => (if w3 = 0 then sx_c2 (fnX5_here F m_tape m_typed w2) (fun (r57 : Int32) (w58 : Int32) => (if r57 = (47 : Int32) then (k_41 (1 : Int32) w58) else (k_41 (0 : Int32) w58))) else (k_41 (0 : Int32) w2)))) := rfl
theorem nm_47 : (47 : Int32) = nI 47 := by decide +kernel
theorem nm_59 : (59 : Int32) = nI 59 := by decide +kernel
theorem ft_nz : ∀ e, e < 71 → ¬ ((-20 : Int32) - nI e = 0) := by decide +kernel
theorem fh_e (x : Int32) : fnX3_faultHere 1000 x = some ((-20 : Int32) - x) := rfl
theorem rp_f {n : Nat} {g : Nat → Int32} (pl : Int32) (rd : Nat → Int32) : fnX5_readPersons 1000 g (nI n) pl 1 rd = some (0, pl, 1, rd) := by
  unfold fnX5_readPersons
  exact yq_f _ _ _ 999
theorem cB_f {n : Nat} {g : Nat → Int32} (now rd : Nat → Int32) (ud r1 r10 pl : Int32) : cB 1000 now g (nI n) rd ud r1 r10 pl 1 = some ((-20 : Int32) - pl, now, 0, pl, 1, rd, ud) := by
  unfold cB
  rw [rp_f, c4_e, sx_lt_e, if_neg (by decide)]
  dsimp only
  rw [sx_gd_e (by decide), if_neg (by decide)]
theorem cA_f {n : Nat} {g : Nat → Int32} (now rd : Nat → Int32) (ud r1 pl : Int32) : cA 1000 now g (nI n) rd ud r1 pl 1 = some ((-20 : Int32) - pl, now, 0, pl, 1, rd, ud) := by
  unfold cA
  rw [nu_f, c3_e, sx_lt_e, if_neg (by decide)]
  dsimp only
  rw [mu_f, c2_e, cB_f]
theorem nb_1 {tp : Nat → Nat} {n : Nat} {g : Nat → Int32} (hg : tq_ok tp n g) : (¬ rg (nI (tq_c tp n 0) - 48) 1 9 = true ∧ ∃ x, fnX5_number 1000 g (nI n) 0 0 1 9 1 = some (x, nI (tq_s tp n 0), 1)) ∨ ∃ v, 1 ≤ v ∧ v ≤ 9 ∧ tq_s tp n 0 < n ∧ nI (tq_c tp n 0) - 48 = nI v ∧ fnX5_number 1000 g (nI n) 0 0 1 9 1 = some (nI v, nI (tq_s tp n 0 + 1), 0) := by
  have hc := tq_c_lt hg 0
  by_cases h : tq_d tp n (tq_s tp n 0)
  · have hz := h.1
    have hd := h.2
    have e3 : fnX5_number 1000 g (nI n) 0 0 1 9 1 = _ := nu_g hg (Nat.zero_le n) h 1 9 (c := 1) (nu_1 hg h)
    rw [i1, i9] at e3
    rw [tq_at hz, nm_48, pk_sub hd.1]
    by_cases z : rg (nI (tp (tq_s tp n 0) - 48)) 1 9 = true
    · rw [if_pos z] at e3
      have := (rgI (c := tp (tq_s tp n 0) - 48) (by omega)).mp z
      exact Or.inr ⟨_, by omega, by omega, hz, rfl, e3⟩
    · rw [if_neg z] at e3
      exact Or.inl ⟨z, _, e3⟩
  · exact Or.inl ⟨fun q => h (tq_dc.mp (by have := (rgS hc).mp q; omega)), _, nu_b hg (Nat.zero_le n) h 1 9 1⟩
theorem rr_all {tp : Nat → Nat} {n : Nat} {f g : Nat → Int32} (hf : tq_ok tp n f) (hg : tq_ok tp n g) (cw ck pl0 fl0 ud : Int32) (now rd : Nat → Int32) : (∃ (e : Nat) (w2 wa we : Int32), e ≤ n ∧ fnX3_readRules 1000 f (nI n) 0 cw ck = some ((-20 : Int32) - nI e, w2, wa, we) ∧ fnX5_court 1000 now g (nI n) pl0 fl0 rd ud = some ((-20 : Int32) - nI e, now, 0, nI e, 1, rd, ud)) ∨ ∃ v wk a, 1 ≤ v ∧ v ≤ 9 ∧ 2 ≤ wk ∧ wk ≤ 30 ∧ a ≤ n ∧ fnX3_readRules 1000 f (nI n) 0 cw ck = some (0, nI a, nI v, nI wk) ∧ fnX5_court 1000 now g (nI n) pl0 fl0 rd ud = cB 1000 now g (nI n) rd ud (nI v) (nI wk) (nI a) 0 := by
  have hn := hf.1
  have h00 := tq_s_le (tp := tp) (Nat.zero_le n)
  have x0 : fnX3_peek 1000 f (nI n) 0 = some (nI (tq_c tp n 0), nI (tq_s tp n 0)) := xp hf (Nat.zero_le n)
  rcases nb_1 hg with ⟨z, x, en⟩ | ⟨v, v1, v2, hs, ev, en⟩
  · refine Or.inl ⟨tq_s tp n 0, nI (tq_s tp n 0), nI (tq_c tp n 0) - 48, ck, h00, ?_, ?_⟩
    · unfold fnX3_readRules
      rw [x0, c2_e, xs_within, i1, i9, c1_e, if_pos ((if1 _).mpr z), fh_e, c1_e]
    · rw [cO, en, c3_e, sx_lt_e, if_neg (by decide)]
      dsimp only
      rw [mu_f, c2_e, cA_f]
  · have hw : ¬ ((if rg (nI v) 1 9 = true then (1 : Int32) else 0) = 0) := fun q => (if1 _).mp q ((rgI (by omega)).mpr ⟨by omega, by omega⟩)
    have ea : tq_s tp n 0 + 1 ≤ n := hs
    have hs1 := tq_s_le (tp := tp) ea
    have hc1 := tq_c_lt hf (tq_s tp n 0 + 1)
    by_cases z : tq_c tp n (tq_s tp n 0 + 1) = 47
    · have hs2 := tq_in (tp := tp) (n := n) (a := tq_s tp n 0 + 1) (by omega)
      have eb : tq_s tp n (tq_s tp n 0 + 1) + 1 ≤ n := hs2
      have hs3 := tq_s_le (tp := tp) eb
      have er : fnX5_court 1000 now g (nI n) pl0 fl0 rd ud = cA 1000 now g (nI n) rd ud (nI v) (nI (tq_s tp n (tq_s tp n 0 + 1) + 1)) 0 := by
        rw [cO, en, c3_e, sx_lt_e, if_pos rfl, yp hg ea, c2_e, z, if_pos nm_47.symm]
        dsimp only
        rw [mu_1, c2_e]
      rcases nb_2 hf hg eb with ⟨v', w, x, k1, k2, k3⟩ | ⟨wk, e, g1, g2, g3, k1, k2⟩
      · refine Or.inl ⟨tq_s tp n (tq_s tp n (tq_s tp n 0 + 1) + 1), w, nI v, v', hs3, ?_, ?_⟩
        · unfold fnX3_readRules
          rw [x0, c2_e, ev, xs_within, i1, i9, c1_e, if_neg hw, nI_1 (tq_s tp n 0), xp hf ea, c2_e, z, if_pos nm_47.symm, nI_1, xp hf eb, c2_e, fh_e, c1_e, k1, c2_e, xs_within, i2, i30, c1_e, if_pos ((if1 _).mpr k2)]
        · rw [er]
          unfold cA
          rw [k3, c3_e, sx_lt_e, if_neg (by decide)]
          dsimp only
          rw [mu_f, c2_e, cB_f]
      · have hw2 : ¬ ((if rg (nI wk) 2 30 = true then (1 : Int32) else 0) = 0) := fun q => (if1 _).mp q ((rgI (by omega)).mpr ⟨by omega, by omega⟩)
        have hc3 := tq_c_lt hf e
        have hs4 := tq_s_le (tp := tp) g3
        by_cases z2 : tq_c tp n e = 59
        · have hs5 := tq_in (tp := tp) (n := n) (a := e) (by omega)
          refine Or.inr ⟨v, wk, tq_s tp n e + 1, v1, v2, g1, g2, hs5, ?_, ?_⟩
          · unfold fnX3_readRules
            rw [x0, c2_e, ev, xs_within, i1, i9, c1_e, if_neg hw, nI_1 (tq_s tp n 0), xp hf ea, c2_e, z, if_pos nm_47.symm, nI_1, xp hf eb, c2_e, fh_e, c1_e, k1, c2_e, xs_within, i2, i30, c1_e, if_neg hw2, xp hf g3, c2_e, z2, if_pos nm_59.symm, nI_1]
          · rw [er]
            unfold cA
            rw [k2, c3_e, sx_lt_e, if_pos rfl, yp hg g3, c2_e, z2, if_pos nm_59.symm]
            dsimp only
            rw [mu_1, c2_e]
        · have z2' : ¬ nI (tq_c tp n e) = (59 : Int32) := fun q => z2 ((nI_eq (a := tq_c tp n e) (b := 59) (by omega) (by omega)).mp (q.trans nm_59))
          refine Or.inl ⟨tq_s tp n e, nI (tq_s tp n e), nI v, nI wk, hs4, ?_, ?_⟩
          · unfold fnX3_readRules
            rw [x0, c2_e, ev, xs_within, i1, i9, c1_e, if_neg hw, nI_1 (tq_s tp n 0), xp hf ea, c2_e, z, if_pos nm_47.symm, nI_1, xp hf eb, c2_e, fh_e, c1_e, k1, c2_e, xs_within, i2, i30, c1_e, if_neg hw2, xp hf g3, c2_e, if_neg z2', fh_e, c1_e]
          · rw [er]
            unfold cA
            rw [k2, c3_e, sx_lt_e, if_pos rfl, yp hg g3, c2_e, if_neg z2']
            dsimp only
            rw [mu_0, c2_e, cB_f]
    · have z' : ¬ nI (tq_c tp n (tq_s tp n 0 + 1)) = (47 : Int32) := fun q => z ((nI_eq (a := tq_c tp n (tq_s tp n 0 + 1)) (b := 47) (by omega) (by omega)).mp (q.trans nm_47))
      refine Or.inl ⟨tq_s tp n (tq_s tp n 0 + 1), nI (tq_s tp n (tq_s tp n 0 + 1)), nI v, ck, hs1, ?_, ?_⟩
      · unfold fnX3_readRules
        rw [x0, c2_e, ev, xs_within, i1, i9, c1_e, if_neg hw, nI_1 (tq_s tp n 0), xp hf ea, c2_e, if_neg z', fh_e, c1_e]
      · rw [cO, en, c3_e, sx_lt_e, if_pos rfl, yp hg ea, c2_e, if_neg z']
        dsimp only
        rw [mu_0, c2_e, cA_f]
theorem cB_1 {n e : Nat} {g rd' : Nat → Int32} {x pl : Int32} (now rd : Nat → Int32) (ud r1 r10 : Int32) (h : fnX5_readPersons 1000 g (nI n) pl 0 rd = some (x, nI e, 1, rd')) : cB 1000 now g (nI n) rd ud r1 r10 pl 0 = some ((-20 : Int32) - nI e, now, 0, nI e, 1, rd', ud) := by
  unfold cB
  rw [h, c4_e, sx_lt_e, if_neg (by decide)]
  dsimp only
  rw [sx_gd_e (by decide), if_neg (by decide)]
theorem cB_2 {tp : Nat → Nat} {n e : Nat} {g rd' : Nat → Int32} {x pl : Int32} (hg : tq_ok tp n g) (he : e ≤ n) (hs : tq_s tp n e = e) (hc : ¬ tq_c tp n e = 0) (now rd : Nat → Int32) (ud r1 r10 : Int32) (h : fnX5_readPersons 1000 g (nI n) pl 0 rd = some (x, nI e, 0, rd')) : cB 1000 now g (nI n) rd ud r1 r10 pl 0 = some ((-20 : Int32) - nI e, now, 0, nI e, 1, rd', ud) := by
  have hl := tq_c_lt hg e
  unfold cB
  rw [h, c4_e, sx_lt_e, if_pos rfl, yp hg he, c2_e, hs, if_neg (nI_nz (by omega) (by omega))]
  dsimp only
  rw [sx_gd_e (by decide), if_neg (by decide)]
theorem cB_3 {tp : Nat → Nat} {n e : Nat} {g rd' : Nat → Int32} {x pl : Int32} (hg : tq_ok tp n g) (he : e ≤ n) (hs : tq_s tp n e = e) (hc : tq_c tp n e = 0) (now rd : Nat → Int32) (ud r1 r10 : Int32) (h : fnX5_readPersons 1000 g (nI n) pl 0 rd = some (x, nI e, 0, rd')) : cB 1000 now g (nI n) rd ud r1 r10 pl 0 = sx_lp3 (bdX5_court_157 1000 r1 x 0 (nI e) 0 rd') 1000 0 (upd (upd (upd (upd now 0 0) 1 0) 2 r1) 3 r10) ud := by
  unfold cB
  rw [h, c4_e, sx_lt_e, if_pos rfl, yp hg he, c2_e, hs, hc, if_pos nm_0.symm]
  dsimp only
  rw [sx_gd_e (by decide), if_pos rfl, sx_n0, sx_n1, sx_n2, sx_n3]
theorem w0_ok {C : ctC} {w : Nat → Int32} (h : cm_C C w) (kd st : Nat → Nat) (v wk : Nat) : cm_C (tqC 0 kd st v wk (cc_dr C)) (upd (upd (upd (upd w 0 0) 1 0) 2 (nI v)) 3 (nI wk)) := by
  obtain ⟨⟨m0, m1, m2, m3, m4, m5, m6⟩, mS⟩ := h
  refine ⟨⟨?_, ?_, ?_, ?_, ?_, fun i hi => absurd hi (Nat.not_lt_zero i), fun i hi => absurd hi (Nat.not_lt_zero i)⟩, fun q hq => absurd hq (Nat.not_lt_zero q)⟩
  · rw [pu_ne (by decide), pu_ne (by decide), pu_ne (by decide), pu_same]; exact nm_0
  · rw [pu_ne (by decide), pu_ne (by decide), pu_same]; exact nm_0
  · rw [pu_ne (by decide), pu_same]; rfl
  · rw [pu_same]; rfl
  · rw [pu_ne (by decide), pu_ne (by decide), pu_ne (by decide), pu_ne (by decide)]; exact m4
theorem xq_f (x_now_kinds : Nat → Int32) (x_now_seating : Nat → Int32) (x_now_knows : Nat → Int64) (x_now_seals : Nat → Int64) (x_now_persons : Int32) (x_now_wax : Int32) (x_now_week : Int32) (x_now_day : Int32) (x_now_draw : Int32) (x_past_steps : Int32) (x_trial_kinds : Nat → Int32) (x_trial_seating : Nat → Int32) (x_trial_knows : Nat → Int64) (x_trial_seals : Nat → Int64) (x_trial_persons : Int32) (x_trial_wax : Int32) (x_trial_week : Int32) (x_trial_day : Int32) (x_trial_draw : Int32) (x_tape_letters : Nat → Int32) (x_tape_length : Int32) (x_tape_at : Int32) {r a : Int32} {ki se : Nat → Int32} {kn sg : Nat → Int64} {pe wa we da : Int32} (h : fnX3_readCourt 1000 x_tape_letters x_tape_length x_tape_at x_trial_kinds x_trial_seating x_trial_knows x_trial_seals x_trial_persons x_trial_wax x_trial_week x_trial_day = some (r, a, ki, se, kn, sg, pe, wa, we, da)) (hr : ¬ r = 0) : fnX4_court 1000 x_now_kinds x_now_seating x_now_knows x_now_seals x_now_persons x_now_wax x_now_week x_now_day x_now_draw x_past_steps x_trial_kinds x_trial_seating x_trial_knows x_trial_seals x_trial_persons x_trial_wax x_trial_week x_trial_day x_trial_draw x_tape_letters x_tape_length x_tape_at = some (r, x_now_kinds, x_now_seating, x_now_knows, x_now_seals, x_now_persons, x_now_wax, x_now_week, x_now_day, x_now_draw, x_past_steps, ki, se, kn, sg, pe, wa, we, da, x_trial_draw, (0 : Int32), a) := by
  unfold fnX4_court
  rw [h, c10_e, if_neg hr]
theorem xq_y {C : ctC} (hn : cc_n C ≤ 6) (x_now_kinds : Nat → Int32) (x_now_seating : Nat → Int32) (x_now_knows : Nat → Int64) (x_now_seals : Nat → Int64) (x_now_persons : Int32) (x_now_wax : Int32) (x_now_week : Int32) (x_now_day : Int32) (x_now_draw : Int32) (x_past_steps : Int32) (x_trial_kinds : Nat → Int32) (x_trial_seating : Nat → Int32) (x_trial_knows : Nat → Int64) (x_trial_seals : Nat → Int64) (x_trial_persons : Int32) (x_trial_wax : Int32) (x_trial_week : Int32) (x_trial_day : Int32) (x_trial_draw : Int32) (x_tape_letters : Nat → Int32) (x_tape_length : Int32) (x_tape_at : Int32) {a : Int32} {ki se : Nat → Int32} {kn sg : Nat → Int64} {pe wa we da : Int32} (h : fnX3_readCourt 1000 x_tape_letters x_tape_length x_tape_at x_trial_kinds x_trial_seating x_trial_knows x_trial_seals x_trial_persons x_trial_wax x_trial_week x_trial_day = some (0, a, ki, se, kn, sg, pe, wa, we, da)) (hX : cx_C C ki se kn sg pe wa we da x_now_draw) : ∃ (ki' se' : Nat → Int32) (kn' sg' : Nat → Int64), fnX4_court 1000 x_now_kinds x_now_seating x_now_knows x_now_seals x_now_persons x_now_wax x_now_week x_now_day x_now_draw x_past_steps x_trial_kinds x_trial_seating x_trial_knows x_trial_seals x_trial_persons x_trial_wax x_trial_week x_trial_day x_trial_draw x_tape_letters x_tape_length x_tape_at = some (pe, ki', se', kn', sg', pe, wa, we, da, x_now_draw, (0 : Int32), ki, se, kn, sg, pe, wa, we, da, x_now_draw, (0 : Int32), a) ∧ cx_C C ki' se' kn' sg' pe wa we da x_now_draw := by
  obtain ⟨ki', se', kn', sg', e1, hX1⟩ := xs_become (F := 1000) hn hX x_now_kinds x_now_seating x_now_knows x_now_seals x_now_persons x_now_wax x_now_week x_now_day x_now_draw
  refine ⟨ki', se', kn', sg', ?_, hX1⟩
  unfold fnX4_court
  rw [h, c10_e, if_pos rfl, e1, c9_e, xs_forget1, c1_e]
theorem xr_f {f : Nat → Int32} {n tl pe wa we da : Int32} {ki se : Nat → Int32} {kn sg : Nat → Int64} {r a va ve : Int32} (h : fnX3_readRules 1000 f n 0 wa we = some (r, a, va, ve)) (hr : ¬ r = 0) : fnX3_readCourt 1000 f n tl ki se kn sg pe wa we da = some (r, a, ki, se, kn, sg, 0, va, ve, 0) := by
  unfold fnX3_readCourt
  rw [show fnX0_empty 1000 pe da = some (0, 0) from rfl, c2_e, h, c4_e, if_neg hr]
theorem xr_y {f : Nat → Int32} {n tl pe wa we da : Int32} {ki se : Nat → Int32} {kn sg : Nat → Int64} {a va ve : Int32} (h : fnX3_readRules 1000 f n 0 wa we = some (0, a, va, ve)) {r a2 : Int32} {ki' se' : Nat → Int32} {kn' sg' : Nat → Int64} {pe' : Int32} (h2 : fnX3_readPersons 1000 f n a ki se kn sg 0 va = some (r, a2, ki', se', kn', sg', pe')) : fnX3_readCourt 1000 f n tl ki se kn sg pe wa we da = some (r, a2, ki', se', kn', sg', pe', va, ve, 0) := by
  unfold fnX3_readCourt
  rw [show fnX0_empty 1000 pe da = some (0, 0) from rfl, c2_e, h, c4_e, if_pos rfl, h2, c7_e]
theorem ag_court {X : SX} {M : SM} (h : LInv X M) : ∃ r X2 M2, xo_court 1000 X = some (r, X2) ∧ mo_court 1000 M = some (r, M2) ∧ LInv X2 M2 := by
  obtain ⟨x_now_kinds, x_now_seating, x_now_knows, x_now_seals, x_now_telling, x_now_persons, x_now_wax, x_now_week, x_now_day, x_now_draw, x_past_knows, x_past_seals, x_past_dates, x_past_draws, x_past_next, x_past_steps, x_imageCourt_kinds, x_imageCourt_seating, x_imageCourt_knows, x_imageCourt_seals, x_imageCourt_telling, x_imageCourt_persons, x_imageCourt_wax, x_imageCourt_week, x_imageCourt_day, x_imageCourt_draw, x_imagePast_knows, x_imagePast_seals, x_imagePast_dates, x_imagePast_draws, x_imagePast_next, x_imagePast_steps, x_imaged, x_trial_kinds, x_trial_seating, x_trial_knows, x_trial_seals, x_trial_telling, x_trial_persons, x_trial_wax, x_trial_week, x_trial_day, x_trial_draw, x_order, x_bestOrder, x_tape_letters, x_tape_length, x_tape_at, x_sl, x_sn, x_si⟩ := X
  obtain ⟨m_now, m_tape, m_typed, m_place, m_isFault, m_read, m_heard, m_undone, m_undos, m_aside, m_kept, m_keptUndos, m_isKept, m_lanes, m_sizes, m_items, m_moved⟩ := M
  obtain ⟨hnow, himg, htape, hsheet⟩ := h
  have key : ∃ (r : Int32) (w_x_now_kinds : Nat → Int32) (w_x_now_seating : Nat → Int32) (w_x_now_knows : Nat → Int64) (w_x_now_seals : Nat → Int64) (w_x_now_persons : Int32) (w_x_now_wax : Int32) (w_x_now_week : Int32) (w_x_now_day : Int32) (w_x_now_draw : Int32) (w_x_past_steps : Int32) (w_x_trial_kinds : Nat → Int32) (w_x_trial_seating : Nat → Int32) (w_x_trial_knows : Nat → Int64) (w_x_trial_seals : Nat → Int64) (w_x_trial_persons : Int32) (w_x_trial_wax : Int32) (w_x_trial_week : Int32) (w_x_trial_day : Int32) (w_x_trial_draw : Int32) (w_x_tape_at : Int32) (w_m_now : Nat → Int32) (w_m_place : Int32) (w_m_isFault : Int32) (w_m_read : Nat → Int32) (w_m_undos : Int32), fnX4_court 1000 x_now_kinds x_now_seating x_now_knows x_now_seals x_now_persons x_now_wax x_now_week x_now_day x_now_draw x_past_steps x_trial_kinds x_trial_seating x_trial_knows x_trial_seals x_trial_persons x_trial_wax x_trial_week x_trial_day x_trial_draw x_tape_letters x_tape_length x_tape_at = some (r, w_x_now_kinds, w_x_now_seating, w_x_now_knows, w_x_now_seals, w_x_now_persons, w_x_now_wax, w_x_now_week, w_x_now_day, w_x_now_draw, w_x_past_steps, w_x_trial_kinds, w_x_trial_seating, w_x_trial_knows, w_x_trial_seals, w_x_trial_persons, w_x_trial_wax, w_x_trial_week, w_x_trial_day, w_x_trial_draw, (0 : Int32), w_x_tape_at) ∧ fnX5_court 1000 m_now m_tape m_typed m_place m_isFault m_read m_undos = some (r, w_m_now, (0 : Int32), w_m_place, w_m_isFault, w_m_read, w_m_undos) ∧ P_now w_x_now_kinds w_x_now_seating w_x_now_knows w_x_now_seals w_x_now_persons w_x_now_wax w_x_now_week w_x_now_day w_x_now_draw x_past_knows x_past_seals x_past_dates x_past_draws x_past_next w_x_past_steps w_m_now m_undone w_m_undos := by
    have hnow2 := hnow
    obtain ⟨C, k, hs, hC, hk, hX, hP, hM, hU, hud⟩ := hnow2
    obtain ⟨n, hn, rfl, rfl, hti⟩ := htape
    obtain ⟨tp, hf, hg⟩ : ∃ tp, tq_ok tp n x_tape_letters ∧ tq_ok tp n m_tape := by
      have h1 : tq_ok (fun i => (x_tape_letters i).toNatClampNeg) n x_tape_letters := ⟨hn, fun i hi => by
        obtain ⟨-, c, h1, h2, h3⟩ := hti i hi
        show x_tape_letters i = nI (x_tape_letters i).toNatClampNeg ∧ 32 ≤ (x_tape_letters i).toNatClampNeg ∧ (x_tape_letters i).toNatClampNeg ≤ 126
        rw [h3, nI_clamp (by omega)]
        exact ⟨rfl, h1, h2⟩⟩
      exact ⟨_, h1, hn, fun i hi => by rw [← (hti i hi).1]; exact h1.2 i hi⟩
    rcases rr_all hf hg x_trial_wax x_trial_week m_place m_isFault m_undos m_now m_read with ⟨e, w2, wa, we, he, e1, e2⟩ | ⟨v, wk, a, v1, v2, k1, k2, ha, e1, e2⟩
    · have hz := ft_nz e (by omega)
      exact ⟨_, _, _, _, _, _, _, _, _, _, _, _, _, _, _, _, _, _, _, _, _, _, _, _, _, _, xq_f _ _ _ _ _ _ _ _ _ _ _ _ _ _ _ _ _ _ _ _ _ _ (xr_f e1 hz) hz, e2, hnow⟩
    · have hX0 : cx_C (tqC 0 (fun _ => 0) (fun _ => 0) v wk (cc_dr C)) x_trial_kinds x_trial_seating x_trial_knows x_trial_seals (nI 0) (nI v) (nI wk) (nI 0) (nI (cc_dr C)) := ⟨fun i hi => absurd hi (Nat.not_lt_zero i), fun i hi => absurd hi (Nat.not_lt_zero i), fun i hi => absurd hi (Nat.not_lt_zero i), fun i hi => absurd hi (Nat.not_lt_zero i), rfl, rfl, rfl, rfl, rfl⟩
      have ex : fnX3_readPersons 1000 x_tape_letters (nI n) (nI a) x_trial_kinds x_trial_seating x_trial_knows x_trial_seals 0 (nI v) = sx_lp7 (bdX3_readPersons_2 1000 x_tape_letters (nI n) (nI v) kF kF kF) 1000 (nI 0) (nI a) x_trial_kinds x_trial_seating x_trial_knows x_trial_seals (nI 0) := by rw [rp_x, nm_0]
      have ey : fnX5_readPersons 1000 m_tape (nI n) (nI a) 0 m_read = rI 1000 m_tape (nI n) (sx_lp4 (bdX5_readPersons_2 1000 m_tape (nI n)) 999) (nI 0) m_read (nI a) 0 := yq_0 (nI a) m_read 999
      have hdr : x_now_draw = nI (cc_dr C) := hX.2.2.2.2.2.2.2.2
      rcases pl_all (wk := wk) (dr := cc_dr C) hf hg v2 6 0 (by omega) (by omega) a ha 1000 999 (by omega) (by omega) (fun _ => 0) (fun _ => 0) x_trial_kinds x_trial_seating x_trial_knows x_trial_seals m_read (fun i hi => absurd hi (Nat.not_lt_zero i)) (fun i hi => absurd hi (Nat.not_lt_zero i)) hX0 (fun i hi => absurd hi (Nat.not_lt_zero i)) with ⟨e, ki', se', kn', sg', pe', x, fl, rd', he, q1, q2, q3⟩ | ⟨e, m, kd', st', ki', se', kn', sg', rd', he, hm0, hm, hkd, hst, q1, q2, q3, q4, q5, q6⟩
      · have hz := ft_nz e (by omega)
        rw [← ex] at q1
        rw [← ey] at q2
        rcases q3 with rfl | ⟨rfl, q4, q5⟩
        · exact ⟨_, _, _, _, _, _, _, _, _, _, _, _, _, _, _, _, _, _, _, _, _, _, _, _, _, _, xq_f _ _ _ _ _ _ _ _ _ _ _ _ _ _ _ _ _ _ _ _ _ _ (xr_y e1 q1) hz, e2.trans (cB_1 _ _ _ _ _ q2), hnow⟩
        · exact ⟨_, _, _, _, _, _, _, _, _, _, _, _, _, _, _, _, _, _, _, _, _, _, _, _, _, _, xq_f _ _ _ _ _ _ _ _ _ _ _ _ _ _ _ _ _ _ _ _ _ _ (xr_y e1 q1) hz, e2.trans (cB_2 hg he q4 q5 _ _ _ _ _ q2), hnow⟩
      · rw [← ex] at q1
        rw [← ey] at q2
        have hdl : cc_dr C < 2 ^ 31 := hC.2.2.2.2.2.2.2
        have hX2 : cx_C (tqC m kd' st' v wk (cc_dr C)) ki' se' kn' sg' (nI m) (nI v) (nI wk) 0 x_now_draw := by rw [hdr]; exact q3
        obtain ⟨ki2, se2, kn2, sg2, g1, g2⟩ := xq_y (C := tqC m kd' st' v wk (cc_dr C)) hm x_now_kinds x_now_seating x_now_knows x_now_seals x_now_persons x_now_wax x_now_week x_now_day x_now_draw x_past_steps x_trial_kinds x_trial_seating x_trial_knows x_trial_seals x_trial_persons x_trial_wax x_trial_week x_trial_day x_trial_draw x_tape_letters (nI n) x_tape_at (xr_y e1 q1) hX2
        obtain ⟨w', ud', f1, f2, f3⟩ := fl_all hm hst q4 0 (nI e) 0 m 0 (by omega) 1000 (by omega) _ m_undos (w0_ok hM kd' st' v wk) (fun q => absurd q (by omega))
        have f1' := (cB_3 hg he q5 q6 m_now m_read m_undos (nI v) (nI wk) q2).trans f1
        obtain ⟨px, hx, hnx, -, -⟩ := hP
        exact ⟨_, _, _, _, _, _, _, _, _, _, _, _, _, _, _, _, _, _, _, _, _, _, _, _, _, _, g1, e2.trans f1', tqC m kd' st' v wk (cc_dr C), 0, hs, tqC_ok st' hm hkd v1 v2 k1 k2 hdl, ⟨by omega, fun i hi => absurd hi (by omega)⟩, g2, ⟨px, hx, hnx, nm_0, fun i hi => absurd hi (by omega)⟩, f2, fun i hi => absurd hi (by omega), (f3 hm0).trans nm_0⟩
  obtain ⟨r, w_x_now_kinds, w_x_now_seating, w_x_now_knows, w_x_now_seals, w_x_now_persons, w_x_now_wax, w_x_now_week, w_x_now_day, w_x_now_draw, w_x_past_steps, w_x_trial_kinds, w_x_trial_seating, w_x_trial_knows, w_x_trial_seals, w_x_trial_persons, w_x_trial_wax, w_x_trial_week, w_x_trial_day, w_x_trial_draw, w_x_tape_at, w_m_now, w_m_place, w_m_isFault, w_m_read, w_m_undos, e1, e2, khnow⟩ := key
  refine ⟨r, (w_x_now_kinds, w_x_now_seating, w_x_now_knows, w_x_now_seals, x_now_telling, w_x_now_persons, w_x_now_wax, w_x_now_week, w_x_now_day, w_x_now_draw, x_past_knows, x_past_seals, x_past_dates, x_past_draws, x_past_next, w_x_past_steps, x_imageCourt_kinds, x_imageCourt_seating, x_imageCourt_knows, x_imageCourt_seals, x_imageCourt_telling, x_imageCourt_persons, x_imageCourt_wax, x_imageCourt_week, x_imageCourt_day, x_imageCourt_draw, x_imagePast_knows, x_imagePast_seals, x_imagePast_dates, x_imagePast_draws, x_imagePast_next, x_imagePast_steps, x_imaged, w_x_trial_kinds, w_x_trial_seating, w_x_trial_knows, w_x_trial_seals, x_trial_telling, w_x_trial_persons, w_x_trial_wax, w_x_trial_week, w_x_trial_day, w_x_trial_draw, x_order, x_bestOrder, x_tape_letters, (0 : Int32), w_x_tape_at, x_sl, x_sn, x_si), (w_m_now, m_tape, (0 : Int32), w_m_place, w_m_isFault, w_m_read, m_heard, m_undone, w_m_undos, m_aside, m_kept, m_keptUndos, m_isKept, m_lanes, m_sizes, m_items, m_moved), ?_, ?_, khnow, himg, ⟨0, by omega, nm_0, nm_0, fun i hi => absurd hi (by omega)⟩, hsheet⟩
  · unfold xo_court; simp only []; rw [e1]; rfl
  · unfold mo_court; simp only []; rw [e2]; rfl
