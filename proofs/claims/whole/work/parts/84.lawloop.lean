-- THE LAW: its loop, its start
theorem lh_i {L i : Nat} (hL : L ≤ 3584) (hi : i < 10000) : (Int32.ofNat L - (7 : Int32) < nI i) ↔ L < i + 7 := by
  have e1 : (Int32.ofNat L).toInt = (L : Int) := nI_toInt (n := L) (by omega)
  have e2 : (nI i).toInt = (i : Int) := nI_toInt (by omega)
  have e3 : (7 : Int32).toInt = 7 := by decide
  rw [fa_lt, fb_subI (by rw [e1, e3]; omega) (by rw [e1, e3]; omega), e1, e2, e3]
  omega
set_option maxHeartbeats 4000000 in
set_option maxRecDepth 100000 in
theorem law_loop {p : Program} {l : Launch} {e : Env} {s : State} {m : MethodId} {below : List Frame} {meth : Method} {c : Code} {b L : Nat} {xs : Nat → Int32} {D : va_G} {cI cJ cS : ClassId} {ad adK adV : Nat → Nat} (hL : L ≤ 3584) (C0 : lw_At p s m meth c b L xs) (hN : sx_N s) (hK : va_K D vwCl (sx_T cI cJ cS) s) (hZ : sx_Z adK adV (fun q : Nat => s.heap.size ≤ q) s s.heap) :
    ∀ (n i : Nat), L + 7 ≤ i + 7 * n → i < 10000 → ∀ (X : SX) (M : SM), LInv X M → ∀ (H : Heap) (locs : List Loc) (ls : Array Slot), va_P D vwCl (xW cI cJ cS ad X ++ mW cI cJ ad M) H → va_D (fun q : Nat => s.heap.size ≤ q) (xW cI cJ cS ad X ++ mW cI cJ ad M) → va_S (fun q : Nat => s.heap.size ≤ q) s.heap H locs → lv_has ls 4 [(0, .ref b), (1, .ref (ad 0)), (2, .ref (ad 42)), (3, .int (nI i))] → W p l e room_1 s m #[Value.ref b] below meth c H locs 54 1793 (lw_Z below #[Value.ref b] s) (F0 m 18 ls []) := by
  obtain ⟨hx, hb, hr, hml, hown, hts0, hX, hbl, hlocks, hgv⟩ := id C0
  have hA : ∀ q : Nat, s.heap.size ≤ q → (fun q : Nat => s.heap.size ≤ q) q := fun _ h => h
  have hbA : ¬ (fun q : Nat => s.heap.size ≤ q) b := Nat.not_le.mpr hbl
  intro n
  induction n with
  | zero =>
    intro i h1 h2 X M hI H locs ls hP hD hS hl
    refine lv_iload_n hx hb dL_law_18 rfl (lv_at hl 3 rfl) ?_
    refine lv_aload_n hx hb dL_law_19 rfl (lv_at hl 0 rfl) ?_
    refine va_slen hx hb hX hbl hbA hS dL_law_20 ?_
    refine lv_bipush (v := 7) hx hb dL_law_21 (by decide) ?_
    refine lv_isub hx hb dL_law_23 ?_
    refine lv_icmp_gt (tgt := 1337) hx hb dL_law_24 (by decide) (fun _ => ?_) (fun z9 => absurd ((lh_i hL h2).mpr (by omega)) z9)
    refine lv_iconst (v := 1) hx hb dL_law_1337 (by decide) ?_
    refine va_forget (fun q hq => hS.2.2 q hq) ?_
    refine W.widen (k := 600000) (n := 7302250) (by decide) (by decide) ?_
    exact lw_ret hx hb hr hlocks dL_law_1338
  | succ n ih =>
    intro i h1 h2 X M hI H locs ls hP hD hS hl
    refine lv_iload_n hx hb dL_law_18 rfl (lv_at hl 3 rfl) ?_
    refine lv_aload_n hx hb dL_law_19 rfl (lv_at hl 0 rfl) ?_
    refine va_slen hx hb hX hbl hbA hS dL_law_20 ?_
    refine lv_bipush (v := 7) hx hb dL_law_21 (by decide) ?_
    refine lv_isub hx hb dL_law_23 ?_
    refine lv_icmp_gt (tgt := 1337) hx hb dL_law_24 (by decide) (fun _ => ?_) (fun z9 => ?_)
    · refine lv_iconst (v := 1) hx hb dL_law_1337 (by decide) ?_
      refine va_forget (fun q hq => hS.2.2 q hq) ?_
      refine W.widen (k := 600000) (n := 7302250) (by decide) (by decide) ?_
      exact lw_ret hx hb hr hlocks dL_law_1338
    · have hi : i + 7 ≤ L := by
        rcases Nat.lt_or_ge L (i + 7) with q | q
        · exact absurd ((lh_i hL h2).mpr q) z9
        · exact q
      have hRc : 54 ≤ room_1.cells ∧ 1793 ≤ room_1.slots := ⟨by decide, by decide⟩
      have next : ∀ (X2 : SX) (M2 : SM), LInv X2 M2 → ∀ (H1 : Heap) (locs1 : List Loc), va_P D vwCl (xW cI cJ cS ad X2 ++ mW cI cJ ad M2) H1 → va_D (fun q : Nat => s.heap.size ≤ q) (xW cI cJ cS ad X2 ++ mW cI cJ ad M2) → va_S (fun q : Nat => s.heap.size ≤ q) s.heap H1 locs1 → W p l e room_1 s m #[Value.ref b] below meth c H1 locs1 54 1793 (lw_Z below #[Value.ref b] s) (F0 m 1331 ls []) := by
        intro X2 M2 hI2 H1 locs1 hP hD hS
        refine lv_iinc (v := nI (i + 7)) (lv' := [(3, .int (nI (i + 7))), (0, .ref b), (1, .ref (ad 0)), (2, .ref (ad 42))]) hx hb dL_law_1331 hl (k := 3) rfl (nI_add i 7) (by decide) rfl (fun ls hl => ?_)
        refine lv_goto (tgt := 18) hx hb dL_law_1334 (by decide) ?_
        exact ih (i + 7) (by omega) (by omega) X2 M2 hI2 H1 locs1 ls hP hD hS (lv_sub hl [1, 2, 3, 0] rfl)
      have hk_0 : vp_in (nI i) L := vp_in_nI (by omega) (by omega)
      refine lv_aload_n hx hb dL_law_27 rfl (lv_at hl 0 rfl) ?_
      refine lv_iload_n hx hb dL_law_28 rfl (lv_at hl 3 rfl) ?_
      refine va_sld hx hb hX hbl hbA hS hk_0 dL_law_29 ?_
      refine lv_bipush (v := 63) hx hb dL_law_30 (by decide) ?_
      refine lv_iand hx hb dL_law_32 ?_
      refine lv_topi (fun v ev => ?_)
      clear ev
      by_cases c0 : v = (0 : Int32)
      · refine lv_tableIn (off := 147) (tgt := 180) hx hb dL_law_33 (by rw [c0]; decide) (by rw [c0]; decide) (by rw [c0]; decide) (by decide) ?_
        obtain ⟨r, X2, M2, hxo, hmo, hI2⟩ := ag_person (xs (i + 1)) hI
        exact lc_person C0 hN hK hRc i hi hL _ _ _ _ _ _ rfl rfl rfl rfl rfl rfl X X2 M M2 1000 r hxo hmo H locs ls hl hP hD hS (next X2 M2 hI2)
      have c0t : ¬ v.toInt = 0 := fun h => c0 (Int32.toInt_inj.mp (h.trans (by decide)))
      by_cases c1 : v = (1 : Int32)
      · refine lv_tableIn (off := 170) (tgt := 203) hx hb dL_law_33 (by rw [c1]; decide) (by rw [c1]; decide) (by rw [c1]; decide) (by decide) ?_
        obtain ⟨r, X2, M2, hxo, hmo, hI2⟩ := ag_of (xs (i + 1)) (xs (i + 2)) hI
        exact lc_of C0 hN hK hRc i hi hL _ _ _ _ _ _ rfl rfl rfl rfl rfl rfl X X2 M M2 1000 r hxo hmo H locs ls hl hP hD hS (next X2 M2 hI2)
      have c1t : ¬ v.toInt = 1 := fun h => c1 (Int32.toInt_inj.mp (h.trans (by decide)))
      by_cases c2 : v = (2 : Int32)
      · refine lv_tableIn (off := 203) (tgt := 236) hx hb dL_law_33 (by rw [c2]; decide) (by rw [c2]; decide) (by rw [c2]; decide) (by decide) ?_
        obtain ⟨r, X2, M2, hxo, hmo, hI2⟩ := ag_strength (xs (i + 1)) (xs (i + 2)) hI
        exact lc_strength C0 hN hK hRc i hi hL _ _ _ _ _ _ rfl rfl rfl rfl rfl rfl X X2 M M2 1000 r hxo hmo H locs ls hl hP hD hS (next X2 M2 hI2)
      have c2t : ¬ v.toInt = 2 := fun h => c2 (Int32.toInt_inj.mp (h.trans (by decide)))
      by_cases c3 : v = (3 : Int32)
      · refine lv_tableIn (off := 236) (tgt := 269) hx hb dL_law_33 (by rw [c3]; decide) (by rw [c3]; decide) (by rw [c3]; decide) (by decide) ?_
        obtain ⟨r, X2, M2, hxo, hmo, hI2⟩ := ag_known (xs (i + 1)) hI
        exact lc_known C0 hN hK hRc i hi hL _ _ _ _ _ _ rfl rfl rfl rfl rfl rfl X X2 M M2 1000 r hxo hmo H locs ls hl hP hD hS (next X2 M2 hI2)
      have c3t : ¬ v.toInt = 3 := fun h => c3 (Int32.toInt_inj.mp (h.trans (by decide)))
      by_cases c4 : v = (4 : Int32)
      · refine lv_tableIn (off := 259) (tgt := 292) hx hb dL_law_33 (by rw [c4]; decide) (by rw [c4]; decide) (by rw [c4]; decide) (by decide) ?_
        obtain ⟨r, X2, M2, hxo, hmo, hI2⟩ := ag_seats (xs (i + 1)) (xs (i + 2)) hI
        exact lc_seats C0 hN hK hRc i hi hL _ _ _ _ _ _ rfl rfl rfl rfl rfl rfl X X2 M M2 1000 r hxo hmo H locs ls hl hP hD hS (next X2 M2 hI2)
      have c4t : ¬ v.toInt = 4 := fun h => c4 (Int32.toInt_inj.mp (h.trans (by decide)))
      by_cases c5 : v = (5 : Int32)
      · refine lv_tableIn (off := 292) (tgt := 325) hx hb dL_law_33 (by rw [c5]; decide) (by rw [c5]; decide) (by rw [c5]; decide) (by decide) ?_
        obtain ⟨r, X2, M2, hxo, hmo, hI2⟩ := ag_rule (xs (i + 1)) (xs (i + 2)) hI
        exact lc_rule C0 hN hK hRc i hi hL _ _ _ _ _ _ rfl rfl rfl rfl rfl rfl X X2 M M2 1000 r hxo hmo H locs ls hl hP hD hS (next X2 M2 hI2)
      have c5t : ¬ v.toInt = 5 := fun h => c5 (Int32.toInt_inj.mp (h.trans (by decide)))
      by_cases c6 : v = (6 : Int32)
      · refine lv_tableIn (off := 325) (tgt := 358) hx hb dL_law_33 (by rw [c6]; decide) (by rw [c6]; decide) (by rw [c6]; decide) (by decide) ?_
        obtain ⟨r, X2, M2, hxo, hmo, hI2⟩ := ag_type (xs (i + 1)) hI
        exact lc_type C0 hN hK hRc i hi hL _ _ _ _ _ _ rfl rfl rfl rfl rfl rfl X X2 M M2 1000 r hxo hmo H locs ls hl hP hD hS (next X2 M2 hI2)
      have c6t : ¬ v.toInt = 6 := fun h => c6 (Int32.toInt_inj.mp (h.trans (by decide)))
      by_cases c7 : v = (7 : Int32)
      · refine lv_tableIn (off := 348) (tgt := 381) hx hb dL_law_33 (by rw [c7]; decide) (by rw [c7]; decide) (by rw [c7]; decide) (by decide) ?_
        obtain ⟨r, X2, M2, hxo, hmo, hI2⟩ := ag_court hI
        exact lc_court C0 hN hK hZ hRc i hi hL _ _ _ _ _ _ rfl rfl rfl rfl rfl rfl X X2 M M2 1000 r hxo hmo H locs ls hl hP hD hS (next X2 M2 hI2)
      have c7t : ¬ v.toInt = 7 := fun h => c7 (Int32.toInt_inj.mp (h.trans (by decide)))
      by_cases c8 : v = (8 : Int32)
      · refine lv_tableIn (off := 361) (tgt := 394) hx hb dL_law_33 (by rw [c8]; decide) (by rw [c8]; decide) (by rw [c8]; decide) (by decide) ?_
        obtain ⟨r, X2, M2, hxo, hmo, hI2⟩ := ag_count (xs (i + 1)) hI
        exact lc_count C0 hN hK hRc i hi hL _ _ _ _ _ _ rfl rfl rfl rfl rfl rfl X X2 M M2 1000 r hxo hmo H locs ls hl hP hD hS (next X2 M2 hI2)
      have c8t : ¬ v.toInt = 8 := fun h => c8 (Int32.toInt_inj.mp (h.trans (by decide)))
      by_cases c9 : v = (9 : Int32)
      · refine lv_tableIn (off := 384) (tgt := 417) hx hb dL_law_33 (by rw [c9]; decide) (by rw [c9]; decide) (by rw [c9]; decide) (by decide) ?_
        obtain ⟨r, X2, M2, hxo, hmo, hI2⟩ := ag_trust (xs (i + 1)) (xs (i + 2)) hI
        exact lc_trust C0 hN hK hRc i hi hL _ _ _ _ _ _ rfl rfl rfl rfl rfl rfl X X2 M M2 1000 r hxo hmo H locs ls hl hP hD hS (next X2 M2 hI2)
      have c9t : ¬ v.toInt = 9 := fun h => c9 (Int32.toInt_inj.mp (h.trans (by decide)))
      by_cases c10 : v = (10 : Int32)
      · refine lv_tableIn (off := 417) (tgt := 450) hx hb dL_law_33 (by rw [c10]; decide) (by rw [c10]; decide) (by rw [c10]; decide) (by decide) ?_
        obtain ⟨r, X2, M2, hxo, hmo, hI2⟩ := ag_seal (xs (i + 1)) (xs (i + 2)) hI
        exact lc_seal C0 hN hK hRc i hi hL _ _ _ _ _ _ rfl rfl rfl rfl rfl rfl X X2 M M2 1000 r hxo hmo H locs ls hl hP hD hS (next X2 M2 hI2)
      have c10t : ¬ v.toInt = 10 := fun h => c10 (Int32.toInt_inj.mp (h.trans (by decide)))
      by_cases c11 : v = (11 : Int32)
      · refine lv_tableIn (off := 450) (tgt := 483) hx hb dL_law_33 (by rw [c11]; decide) (by rw [c11]; decide) (by rw [c11]; decide) (by decide) ?_
        obtain ⟨r, X2, M2, hxo, hmo, hI2⟩ := ag_days (xs (i + 1)) (xs (i + 2)) hI
        exact lc_days C0 hN hK hRc i hi hL _ _ _ _ _ _ rfl rfl rfl rfl rfl rfl X X2 M M2 1000 r hxo hmo H locs ls hl hP hD hS (next X2 M2 hI2)
      have c11t : ¬ v.toInt = 11 := fun h => c11 (Int32.toInt_inj.mp (h.trans (by decide)))
      by_cases c12 : v = (12 : Int32)
      · refine lv_tableIn (off := 483) (tgt := 516) hx hb dL_law_33 (by rw [c12]; decide) (by rw [c12]; decide) (by rw [c12]; decide) (by decide) ?_
        obtain ⟨r, X2, M2, hxo, hmo, hI2⟩ := ag_drift (xs (i + 1)) hI
        exact lc_drift C0 hN hK hRc i hi hL _ _ _ _ _ _ rfl rfl rfl rfl rfl rfl X X2 M M2 1000 r hxo hmo H locs ls hl hP hD hS (next X2 M2 hI2)
      have c12t : ¬ v.toInt = 12 := fun h => c12 (Int32.toInt_inj.mp (h.trans (by decide)))
      by_cases c13 : v = (13 : Int32)
      · refine lv_tableIn (off := 506) (tgt := 539) hx hb dL_law_33 (by rw [c13]; decide) (by rw [c13]; decide) (by rw [c13]; decide) (by decide) ?_
        obtain ⟨r, X2, M2, hxo, hmo, hI2⟩ := ag_undo hI
        exact lc_undo C0 hN hK hRc i hi hL _ _ _ _ _ _ rfl rfl rfl rfl rfl rfl X X2 M M2 1000 r hxo hmo H locs ls hl hP hD hS (next X2 M2 hI2)
      have c13t : ¬ v.toInt = 13 := fun h => c13 (Int32.toInt_inj.mp (h.trans (by decide)))
      by_cases c14 : v = (14 : Int32)
      · refine lv_tableIn (off := 519) (tgt := 552) hx hb dL_law_33 (by rw [c14]; decide) (by rw [c14]; decide) (by rw [c14]; decide) (by decide) ?_
        obtain ⟨r, X2, M2, hxo, hmo, hI2⟩ := ag_seed (xs (i + 1)) hI
        exact lc_seed C0 hN hK hRc i hi hL _ _ _ _ _ _ rfl rfl rfl rfl rfl rfl X X2 M M2 1000 r hxo hmo H locs ls hl hP hD hS (next X2 M2 hI2)
      have c14t : ¬ v.toInt = 14 := fun h => c14 (Int32.toInt_inj.mp (h.trans (by decide)))
      by_cases c15 : v = (15 : Int32)
      · refine lv_tableIn (off := 542) (tgt := 575) hx hb dL_law_33 (by rw [c15]; decide) (by rw [c15]; decide) (by rw [c15]; decide) (by decide) ?_
        obtain ⟨r, X2, M2, hxo, hmo, hI2⟩ := ag_ahead (xs (i + 1)) (xs (i + 2)) (xs (i + 3)) hI
        exact lc_ahead C0 hN hK hRc i hi hL _ _ _ _ _ _ rfl rfl rfl rfl rfl rfl X X2 M M2 1000 r hxo hmo H locs ls hl hP hD hS (next X2 M2 hI2)
      have c15t : ¬ v.toInt = 15 := fun h => c15 (Int32.toInt_inj.mp (h.trans (by decide)))
      by_cases c16 : v = (16 : Int32)
      · refine lv_tableIn (off := 585) (tgt := 618) hx hb dL_law_33 (by rw [c16]; decide) (by rw [c16]; decide) (by rw [c16]; decide) (by decide) ?_
        obtain ⟨r, X2, M2, hxo, hmo, hI2⟩ := ag_rankAhead (xs (i + 1)) (xs (i + 2)) (xs (i + 3)) hI
        exact lc_rankAhead C0 hN hK hRc i hi hL _ _ _ _ _ _ rfl rfl rfl rfl rfl rfl X X2 M M2 1000 r hxo hmo H locs ls hl hP hD hS (next X2 M2 hI2)
      have c16t : ¬ v.toInt = 16 := fun h => c16 (Int32.toInt_inj.mp (h.trans (by decide)))
      by_cases c17 : v = (17 : Int32)
      · refine lv_tableIn (off := 628) (tgt := 661) hx hb dL_law_33 (by rw [c17]; decide) (by rw [c17]; decide) (by rw [c17]; decide) (by decide) ?_
        obtain ⟨r, X2, M2, hxo, hmo, hI2⟩ := ag_leaks (xs (i + 1)) (xs (i + 2)) hI
        exact lc_leaks C0 hN hK hRc i hi hL _ _ _ _ _ _ rfl rfl rfl rfl rfl rfl X X2 M M2 1000 r hxo hmo H locs ls hl hP hD hS (next X2 M2 hI2)
      have c17t : ¬ v.toInt = 17 := fun h => c17 (Int32.toInt_inj.mp (h.trans (by decide)))
      by_cases c18 : v = (18 : Int32)
      · refine lv_tableIn (off := 661) (tgt := 694) hx hb dL_law_33 (by rw [c18]; decide) (by rw [c18]; decide) (by rw [c18]; decide) (by decide) ?_
        obtain ⟨r, X2, M2, hxo, hmo, hI2⟩ := ag_out (xs (i + 1)) (xs (i + 2)) hI
        exact lc_out C0 hN hK hRc i hi hL _ _ _ _ _ _ rfl rfl rfl rfl rfl rfl X X2 M M2 1000 r hxo hmo H locs ls hl hP hD hS (next X2 M2 hI2)
      have c18t : ¬ v.toInt = 18 := fun h => c18 (Int32.toInt_inj.mp (h.trans (by decide)))
      by_cases c19 : v = (19 : Int32)
      · refine lv_tableIn (off := 694) (tgt := 727) hx hb dL_law_33 (by rw [c19]; decide) (by rw [c19]; decide) (by rw [c19]; decide) (by decide) ?_
        obtain ⟨r, X2, M2, hxo, hmo, hI2⟩ := ag_cool (xs (i + 1)) hI
        exact lc_cool C0 hN hK hRc i hi hL _ _ _ _ _ _ rfl rfl rfl rfl rfl rfl X X2 M M2 1000 r hxo hmo H locs ls hl hP hD hS (next X2 M2 hI2)
      have c19t : ¬ v.toInt = 19 := fun h => c19 (Int32.toInt_inj.mp (h.trans (by decide)))
      by_cases c20 : v = (20 : Int32)
      · refine lv_tableIn (off := 717) (tgt := 750) hx hb dL_law_33 (by rw [c20]; decide) (by rw [c20]; decide) (by rw [c20]; decide) (by decide) ?_
        obtain ⟨r, X2, M2, hxo, hmo, hI2⟩ := ag_thick (xs (i + 1)) (xs (i + 2)) hI
        exact lc_thick C0 hN hK hRc i hi hL _ _ _ _ _ _ rfl rfl rfl rfl rfl rfl X X2 M M2 1000 r hxo hmo H locs ls hl hP hD hS (next X2 M2 hI2)
      have c20t : ¬ v.toInt = 20 := fun h => c20 (Int32.toInt_inj.mp (h.trans (by decide)))
      by_cases c21 : v = (21 : Int32)
      · refine lv_tableIn (off := 750) (tgt := 783) hx hb dL_law_33 (by rw [c21]; decide) (by rw [c21]; decide) (by rw [c21]; decide) (by decide) ?_
        obtain ⟨r, X2, M2, hxo, hmo, hI2⟩ := ag_renew (xs (i + 1)) (xs (i + 2)) (xs (i + 3)) (xs (i + 4)) (xs (i + 5)) hI
        exact lc_renew C0 hN hK hRc i hi hL _ _ _ _ _ _ rfl rfl rfl rfl rfl rfl X X2 M M2 1000 r hxo hmo H locs ls hl hP hD hS (next X2 M2 hI2)
      have c21t : ¬ v.toInt = 21 := fun h => c21 (Int32.toInt_inj.mp (h.trans (by decide)))
      by_cases c22 : v = (22 : Int32)
      · refine lv_tableIn (off := 813) (tgt := 846) hx hb dL_law_33 (by rw [c22]; decide) (by rw [c22]; decide) (by rw [c22]; decide) (by decide) ?_
        obtain ⟨r, X2, M2, hxo, hmo, hI2⟩ := ag_table (xs (i + 1)) (xs (i + 2)) (xs (i + 3)) hI
        exact lc_table C0 hN hK hRc i hi hL _ _ _ _ _ _ rfl rfl rfl rfl rfl rfl X X2 M M2 1000 r hxo hmo H locs ls hl hP hD hS (next X2 M2 hI2)
      have c22t : ¬ v.toInt = 22 := fun h => c22 (Int32.toInt_inj.mp (h.trans (by decide)))
      by_cases c23 : v = (23 : Int32)
      · refine lv_tableIn (off := 856) (tgt := 889) hx hb dL_law_33 (by rw [c23]; decide) (by rw [c23]; decide) (by rw [c23]; decide) (by decide) ?_
        obtain ⟨r, X2, M2, hxo, hmo, hI2⟩ := ag_rivals (xs (i + 1)) hI
        exact lc_rivals C0 hN hK hRc i hi hL _ _ _ _ _ _ rfl rfl rfl rfl rfl rfl X X2 M M2 1000 r hxo hmo H locs ls hl hP hD hS (next X2 M2 hI2)
      have c23t : ¬ v.toInt = 23 := fun h => c23 (Int32.toInt_inj.mp (h.trans (by decide)))
      by_cases c24 : v = (24 : Int32)
      · refine lv_tableIn (off := 879) (tgt := 912) hx hb dL_law_33 (by rw [c24]; decide) (by rw [c24]; decide) (by rw [c24]; decide) (by decide) ?_
        obtain ⟨r, X2, M2, hxo, hmo, hI2⟩ := ag_from (xs (i + 1)) (xs (i + 2)) (xs (i + 3)) hI
        exact lc_from C0 hN hK hRc i hi hL _ _ _ _ _ _ rfl rfl rfl rfl rfl rfl X X2 M M2 1000 r hxo hmo H locs ls hl hP hD hS (next X2 M2 hI2)
      have c24t : ¬ v.toInt = 24 := fun h => c24 (Int32.toInt_inj.mp (h.trans (by decide)))
      by_cases c25 : v = (25 : Int32)
      · refine lv_tableIn (off := 922) (tgt := 955) hx hb dL_law_33 (by rw [c25]; decide) (by rw [c25]; decide) (by rw [c25]; decide) (by decide) ?_
        obtain ⟨r, X2, M2, hxo, hmo, hI2⟩ := ag_image hI
        exact lc_image C0 hN hK hRc i hi hL _ _ _ _ _ _ rfl rfl rfl rfl rfl rfl X X2 M M2 1000 r hxo hmo H locs ls hl hP hD hS (next X2 M2 hI2)
      have c25t : ¬ v.toInt = 25 := fun h => c25 (Int32.toInt_inj.mp (h.trans (by decide)))
      by_cases c26 : v = (26 : Int32)
      · refine lv_tableIn (off := 935) (tgt := 968) hx hb dL_law_33 (by rw [c26]; decide) (by rw [c26]; decide) (by rw [c26]; decide) (by decide) ?_
        obtain ⟨r, X2, M2, hxo, hmo, hI2⟩ := ag_restore hI
        exact lc_restore C0 hN hK hRc i hi hL _ _ _ _ _ _ rfl rfl rfl rfl rfl rfl X X2 M M2 1000 r hxo hmo H locs ls hl hP hD hS (next X2 M2 hI2)
      have c26t : ¬ v.toInt = 26 := fun h => c26 (Int32.toInt_inj.mp (h.trans (by decide)))
      by_cases c27 : v = (27 : Int32)
      · refine lv_tableIn (off := 948) (tgt := 981) hx hb dL_law_33 (by rw [c27]; decide) (by rw [c27]; decide) (by rw [c27]; decide) (by decide) ?_
        obtain ⟨r, X2, M2, hxo, hmo, hI2⟩ := ag_told (xs (i + 1)) (xs (i + 2)) (xs (i + 3)) (xs (i + 4)) (xs (i + 5)) hI
        exact lc_told C0 hN hK hRc i hi hL _ _ _ _ _ _ rfl rfl rfl rfl rfl rfl X X2 M M2 1000 r hxo hmo H locs ls hl hP hD hS (next X2 M2 hI2)
      have c27t : ¬ v.toInt = 27 := fun h => c27 (Int32.toInt_inj.mp (h.trans (by decide)))
      by_cases c28 : v = (28 : Int32)
      · refine lv_tableIn (off := 1011) (tgt := 1044) hx hb dL_law_33 (by rw [c28]; decide) (by rw [c28]; decide) (by rw [c28]; decide) (by decide) ?_
        obtain ⟨r, X2, M2, hxo, hmo, hI2⟩ := ag_film (xs (i + 1)) (xs (i + 2)) (xs (i + 3)) (xs (i + 4)) (xs (i + 5)) (xs (i + 6)) hI
        exact lc_film C0 hN hK hRc i hi hL _ _ _ _ _ _ rfl rfl rfl rfl rfl rfl X X2 M M2 1000 r hxo hmo H locs ls hl hP hD hS (next X2 M2 hI2)
      have c28t : ¬ v.toInt = 28 := fun h => c28 (Int32.toInt_inj.mp (h.trans (by decide)))
      by_cases c29 : v = (29 : Int32)
      · refine lv_tableIn (off := 1086) (tgt := 1119) hx hb dL_law_33 (by rw [c29]; decide) (by rw [c29]; decide) (by rw [c29]; decide) (by decide) ?_
        obtain ⟨r, X2, M2, hxo, hmo, hI2⟩ := ag_sheet (xs (i + 1)) (xs (i + 2)) (xs (i + 3)) hI
        exact lc_sheet C0 hN hK hRc i hi hL _ _ _ _ _ _ rfl rfl rfl rfl rfl rfl X X2 M M2 1000 r hxo hmo H locs ls hl hP hD hS (next X2 M2 hI2)
      have c29t : ¬ v.toInt = 29 := fun h => c29 (Int32.toInt_inj.mp (h.trans (by decide)))
      by_cases c30 : v = (30 : Int32)
      · refine lv_tableIn (off := 1129) (tgt := 1162) hx hb dL_law_33 (by rw [c30]; decide) (by rw [c30]; decide) (by rw [c30]; decide) (by decide) ?_
        obtain ⟨r, X2, M2, hxo, hmo, hI2⟩ := ag_drop (xs (i + 1)) hI
        exact lc_drop C0 hN hK hRc i hi hL _ _ _ _ _ _ rfl rfl rfl rfl rfl rfl X X2 M M2 1000 r hxo hmo H locs ls hl hP hD hS (next X2 M2 hI2)
      have c30t : ¬ v.toInt = 30 := fun h => c30 (Int32.toInt_inj.mp (h.trans (by decide)))
      by_cases c31 : v = (31 : Int32)
      · refine lv_tableIn (off := 1152) (tgt := 1185) hx hb dL_law_33 (by rw [c31]; decide) (by rw [c31]; decide) (by rw [c31]; decide) (by decide) ?_
        obtain ⟨r, X2, M2, hxo, hmo, hI2⟩ := ag_item (xs (i + 1)) (xs (i + 2)) (xs (i + 3)) (((xs (i + 4)).toInt64 <<< ((32 : Int32).toInt64 &&& 63)) ||| ((xs (i + 5)).toInt64 &&& (4294967295 : Int64))) hI
        exact lc_item C0 hN hK hRc i hi hL _ _ _ _ _ _ rfl rfl rfl rfl rfl rfl X X2 M M2 1000 r hxo hmo H locs ls hl hP hD hS (next X2 M2 hI2)
      have c31t : ¬ v.toInt = 31 := fun h => c31 (Int32.toInt_inj.mp (h.trans (by decide)))
      by_cases c32 : v = (32 : Int32)
      · refine lv_tableIn (off := 1235) (tgt := 1268) hx hb dL_law_33 (by rw [c32]; decide) (by rw [c32]; decide) (by rw [c32]; decide) (by decide) ?_
        obtain ⟨r, X2, M2, hxo, hmo, hI2⟩ := ag_copy (xs (i + 1)) (xs (i + 2)) (xs (i + 3)) (xs (i + 4)) (xs (i + 5)) hI
        exact lc_copy C0 hN hK hRc i hi hL _ _ _ _ _ _ rfl rfl rfl rfl rfl rfl X X2 M M2 1000 r hxo hmo H locs ls hl hP hD hS (next X2 M2 hI2)
      have c32t : ¬ v.toInt = 32 := fun h => c32 (Int32.toInt_inj.mp (h.trans (by decide)))
      refine lv_tableOut (tgt := 1331) hx hb dL_law_33 (by omega) (by decide) ?_
      exact next X M hI H locs hP hD hS
