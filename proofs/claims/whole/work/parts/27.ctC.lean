-- THE COURT AS ONE VALUE
abbrev ctC : Type := Nat × (Nat → Nat) × (Nat → Nat) × (Nat → Nat → Nat) × Nat × Nat × Nat × Nat
abbrev cc_n (C : ctC) : Nat := C.1
abbrev cc_kd (C : ctC) : Nat → Nat := C.2.1
abbrev cc_st (C : ctC) : Nat → Nat := C.2.2.1
abbrev cc_sl (C : ctC) : Nat → Nat → Nat := C.2.2.2.1
abbrev cc_wx (C : ctC) : Nat := C.2.2.2.2.1
abbrev cc_wk (C : ctC) : Nat := C.2.2.2.2.2.1
abbrev cc_dy (C : ctC) : Nat := C.2.2.2.2.2.2.1
abbrev cc_dr (C : ctC) : Nat := C.2.2.2.2.2.2.2
/-- a court as it may be; its day at most B -/
def cc_ok (C : ctC) (B : Nat) : Prop := cc_n C ≤ 6 ∧ ct_kd (cc_n C) (cc_kd C) ∧ ct_st (cc_n C) (cc_st C) ∧ ct_sl (cc_n C) (cc_sl C) ∧ (1 ≤ cc_wx C ∧ cc_wx C ≤ 9) ∧ (2 ≤ cc_wk C ∧ cc_wk C ≤ 30) ∧ cc_dy C ≤ B ∧ cc_dr C < 2 ^ 31
def cc_day (C : ctC) (h : Nat) : ctC := (cc_n C, cc_kd C, cc_st C, ct_day (cc_n C) (cc_kd C) (cc_st C) (cc_wx C) (cc_wk C) h (cc_dy C) (cc_sl C), cc_wx C, cc_wk C, cc_dy C + 1, cc_dr C)
def cc_lk (C : ctC) (h : Nat) : Nat := ct_dlk (cc_n C) (cc_kd C) (cc_st C) h (cc_dy C) (cc_sl C)
def cc_days (h : Nat) : Nat → ctC → ctC
  | 0, C => C
  | k + 1, C => cc_days h k (cc_day C h)
def cc_lks (h : Nat) : Nat → ctC → Nat
  | 0, _ => 0
  | k + 1, C => cc_lk C h + cc_lks h k (cc_day C h)
theorem cc_days_s (h k : Nat) (C : ctC) : cc_days h (k + 1) C = cc_days h k (cc_day C h) := rfl
theorem cc_lks_s (h k : Nat) (C : ctC) : cc_lks h (k + 1) C = cc_lk C h + cc_lks h k (cc_day C h) := rfl
theorem cc_day_ok {C : ctC} {B : Nat} (hC : cc_ok C B) (h : Nat) : cc_ok (cc_day C h) (B + 1) := by
  obtain ⟨h1, h2, h3, h4, h5, h6, h7, h8⟩ := hC
  exact ⟨h1, h2, h3, ct_day_sl h4 _ _ h5.2 _ _ _, h5, h6, Nat.succ_le_succ h7, h8⟩
theorem cc_ok.mono {C : ctC} {B B2 : Nat} (hC : cc_ok C B) (h : B ≤ B2) : cc_ok C B2 := by
  obtain ⟨h1, h2, h3, h4, h5, h6, h7, h8⟩ := hC
  exact ⟨h1, h2, h3, h4, h5, h6, Nat.le_trans h7 h, h8⟩
theorem cc_days_ok (h : Nat) : ∀ (k : Nat) {C : ctC} {B : Nat}, cc_ok C B → cc_ok (cc_days h k C) (B + k)
  | 0, _, _, hC => hC
  | k + 1, _, B, hC => by
    have := cc_days_ok h k (cc_day_ok hC h)
    rw [cc_days_s]
    exact this.mono (by omega)
theorem cc_days_n (h : Nat) : ∀ (k : Nat) (C : ctC), cc_n (cc_days h k C) = cc_n C
  | 0, _ => rfl
  | k + 1, C => by rw [cc_days_s, cc_days_n h k]; rfl
/-- the class's court holds C -/
def cx_C (C : ctC) (ki se : Nat → Int32) (a b : Nat → Int64) (pe wa we da dr : Int32) : Prop := cx_St (cc_n C) (cc_kd C) ki ∧ cx_St (cc_n C) (cc_st C) se ∧ cx_L (cc_n C) (cx_kn (cc_sl C)) a ∧ cx_L (cc_n C) (cx_sg (cc_sl C)) b ∧ pe = nI (cc_n C) ∧ wa = nI (cc_wx C) ∧ we = nI (cc_wk C) ∧ da = nI (cc_dy C) ∧ dr = nI (cc_dr C)
theorem xc_live {F h B : Nat} {C : ctC} {ki se : Nat → Int32} {a b : Nat → Int64} {pe wa we da dr : Int32} (hF : 1000 ≤ F) (hB : B ≤ 100000) (hC : cc_ok C B) (hh : h ≤ 9) (hX : cx_C C ki se a b pe wa we da dr) (c : Nat → Int64) :
    ∃ a' b' c' da', fnX0_live F ki se a b c pe wa we da (nI h) = some (nI (cc_lk C h), a', b', c', da') ∧ cx_C (cc_day C h) ki se a' b' pe wa we da' dr := by
  obtain ⟨h1, h2, h3, h4, h5, h6, h7, h8⟩ := hC
  obtain ⟨x1, x2, x3, x4, rfl, rfl, rfl, rfl, rfl⟩ := hX
  obtain ⟨a', b', c', e, ha, hb⟩ := xs_live (F := F) (n := cc_n C) (wax := cc_wx C) (week := cc_wk C) (h := h) (day := cc_dy C) (kd := cc_kd C) (st := cc_st C) (sl := cc_sl C) hF h1 h3 h2 h5.2 h6.1 h6.2 hh (Nat.lt_of_le_of_lt h7 (Nat.lt_of_le_of_lt hB (by decide))) x1 x2 h4 x3 x4 c
  exact ⟨a', b', c', _, e, x1, x2, ha, hb, rfl, rfl, rfl, rfl, rfl⟩
-- how much leaks: the times that things are known
theorem fb_perm : ∀ (n : Nat) (st : Nat → Nat), ct_st n st → ∀ g : Nat → Nat, fb_sm (fun i => g (st i)) n = fb_sm g n := by
  intro n
  induction n with
  | zero => intro st _ g; rfl
  | succ n ih =>
    intro st h g
    obtain ⟨i0, hi0, e0⟩ := ct_onto h (show n < n + 1 by omega)
    rw [fb_sm_succ, fb_sm_succ]
    rcases Nat.lt_or_ge i0 n with hlt | hge
    · have hst : ct_st n (fun i => if i = i0 then st n else st i) := by
        refine ⟨fun i hi => ?_, fun i j hi hj e => ?_⟩
        · dsimp only
          by_cases q : i = i0
          · rw [if_pos q]
            have := h.1 n (by omega)
            rcases Nat.lt_or_ge (st n) n with z | z
            · exact z
            · have := h.2 n i0 (by omega) hi0 (by omega); omega
          · rw [if_neg q]
            have := h.1 i (by omega)
            rcases Nat.lt_or_ge (st i) n with z | z
            · exact z
            · have := h.2 i i0 (by omega) hi0 (by omega); omega
        · dsimp only at e
          by_cases q1 : i = i0
          · by_cases q2 : j = i0
            · omega
            · rw [if_pos q1, if_neg q2] at e
              have := h.2 n j (by omega) (by omega) e; omega
          · by_cases q2 : j = i0
            · rw [if_neg q1, if_pos q2] at e
              have := h.2 i n (by omega) (by omega) e; omega
            · rw [if_neg q1, if_neg q2] at e
              exact h.2 i j (by omega) (by omega) e
      have h1 := ih _ hst g
      have h2 := fb_sm_upd (fun i => g (st i)) (g (st n)) hlt
      have h3 : (fun k => if k = i0 then g (st n) else g (st k)) = fun i => g (if i = i0 then st n else st i) := by
        funext k; split <;> rfl
      rw [h3, h1] at h2
      rw [e0] at h2
      omega
    · have e1 : i0 = n := by omega
      subst e1
      have hst : ct_st i0 st := by
        refine ⟨fun i hi => ?_, fun i j hi hj e => h.2 i j (by omega) (by omega) e⟩
        have := h.1 i (by omega)
        rcases Nat.lt_or_ge (st i) i0 with z | z
        · exact z
        · have := h.2 i i0 (by omega) hi0 (by omega); omega
      rw [ih st hst g, e0]
theorem ct_tm_fb (g : Nat → Nat → Nat) : ∀ k, ct_tm g k = fb_sm (fun p => mp_S (g p)) k
  | 0 => rfl
  | k + 1 => by rw [ct_tm_s, ct_tm_fb g k]; rfl
theorem ct_lk_fb (n : Nat) (kd st : Nat → Nat) (sl : Nat → Nat → Nat) : ∀ k, ct_lk n kd st sl k = fb_sm (fun i => ct_lk1 n kd st sl (st i)) k
  | 0 => rfl
  | k + 1 => by rw [ct_lk_s, ct_lk_fb n kd st sl k]; rfl
theorem ct_s2_kn (n : Nat) (kd st : Nat → Nat) (sl : Nat → Nat → Nat) (p : Nat) : mp_S (cx_kn (ct_s2 n kd st sl) p) = mp_S (cx_kn sl p) + ct_lk1 n kd st sl p := by
  have key : ∀ t, cx_kn (ct_s2 n kd st sl) p t = cx_kn sl p t + (if kd p = 4 then 0 else ct_nw n kd st sl p t) := by
    intro t
    have hb : ct_nw n kd st sl p t = 1 ∨ ct_nw n kd st sl p t = 0 := by unfold ct_nw; split <;> simp
    unfold cx_kn
    by_cases y : kd p = 4
    · rw [ct_s2_no (fun h => h.1 y), if_pos y]; rfl
    · rw [if_neg y]
      rcases hb with h | h
      · have e : ct_s2 n kd st sl p t = 1 := by unfold ct_s2; rw [if_pos ⟨y, h⟩]
        rw [e, h, ct_nw1 h]; rfl
      · rw [ct_s2_no (fun q => by omega), h]; rfl
  unfold ct_lk1 mp_S
  rw [key 0, key 1, key 2, key 3, key 4, key 5, key 6, key 7]
  split <;> omega
theorem cc_tm {C : ctC} {B : Nat} (hC : cc_ok C B) (h : Nat) : ct_tm (cx_kn (cc_sl (cc_day C h))) (cc_n C) = ct_tm (cx_kn (cc_sl C)) (cc_n C) + cc_lk C h := by
  obtain ⟨h1, h2, h3, h4, h5, h6, h7, h8⟩ := hC
  have e : ∀ p, mp_S (cx_kn (cc_sl (cc_day C h)) p) = mp_S (cx_kn (cc_sl C) p) + ct_lk1 (cc_n C) (cc_kd C) (cc_st C) (ct_s1 (cc_kd C) h (cc_dy C) (cc_sl C)) p := by
    intro p
    show mp_S (cx_kn (ct_day _ _ _ _ _ _ _ _) p) = _
    unfold ct_day
    split
    · rw [ct_rn_kn, ct_s2_kn, ct_s1_kn]
    · rw [ct_s2_kn, ct_s1_kn]
  rw [ct_tm_fb, ct_tm_fb]
  unfold cc_lk ct_dlk
  rw [ct_lk_fb, fb_perm _ _ h3, ← fb_sm_add]
  exact fb_sm_cong (fun p _ => e p)
theorem cc_tms (h : Nat) : ∀ (k : Nat) {C : ctC} {B : Nat}, cc_ok C B → ct_tm (cx_kn (cc_sl (cc_days h k C))) (cc_n C) = ct_tm (cx_kn (cc_sl C)) (cc_n C) + cc_lks h k C
  | 0, _, _, _ => rfl
  | k + 1, C, B, hC => by
    have h1 := cc_tms h k (cc_day_ok hC h)
    have h2 := cc_tm hC h
    rw [cc_days_s, cc_lks_s]
    have h3 : cc_n (cc_day C h) = cc_n C := rfl
    rw [h3] at h1
    omega
theorem ct_tm_le {g : Nat → Nat → Nat} (hg : ∀ p, mp_B 2 (g p)) : ∀ k, ct_tm g k ≤ 8 * k
  | 0 => Nat.le_refl 0
  | k + 1 => by
    have h1 := ct_tm_le hg k
    obtain ⟨h0, h1', h2, h3, h4, h5, h6, h7⟩ := mp_all (hg k)
    rw [ct_tm_s]; unfold mp_S; omega
theorem cc_lks_le {C : ctC} {B : Nat} (hC : cc_ok C B) (h k : Nat) : cc_lks h k C ≤ 48 := by
  have h1 := cc_tms h k hC
  have h2 := ct_tm_le (cx_kn_B (cc_sl (cc_days h k C))) (cc_n C)
  have h3 := hC.1
  omega
theorem cc_lk_le {C : ctC} {B : Nat} (hC : cc_ok C B) (h : Nat) : cc_lk C h ≤ 48 := by
  have := cc_lks_le hC h 1
  rw [cc_lks_s] at this
  omega
