def fnX1_become (F : Nat) (p_knows : Nat → Int64) (p_seals : Nat → Int64) (p_dates : Nat → Int32) (p_draws : Nat → Int32) (p_next : Int32) (p_steps : Int32) (o_knows : Nat → Int64) (o_seals : Nat → Int64) (o_dates : Nat → Int32) (o_draws : Nat → Int32) (o_next : Int32) (o_steps : Int32) : Option ((Nat → Int64) × (Nat → Int64) × (Nat → Int32) × (Nat → Int32) × Int32 × Int32) :=
  sx_gd (sx_cp (0 : Int32) (0 : Int32) (48 : Int32) 48 48) (sx_gd (sx_cp (0 : Int32) (0 : Int32) (48 : Int32) 48 48) (sx_gd (sx_cp (0 : Int32) (0 : Int32) (8 : Int32) 8 8) (sx_gd (sx_cp (0 : Int32) (0 : Int32) (8 : Int32) 8 8) ((some ((va_cpy o_knows p_knows ((0 : Int32)).toNatClampNeg ((0 : Int32)).toNatClampNeg ((48 : Int32)).toNatClampNeg), (va_cpy o_seals p_seals ((0 : Int32)).toNatClampNeg ((0 : Int32)).toNatClampNeg ((48 : Int32)).toNatClampNeg), (va_cpy o_dates p_dates ((0 : Int32)).toNatClampNeg ((0 : Int32)).toNatClampNeg ((8 : Int32)).toNatClampNeg), (va_cpy o_draws p_draws ((0 : Int32)).toNatClampNeg ((0 : Int32)).toNatClampNeg ((8 : Int32)).toNatClampNeg), o_next, o_steps))))))
set_option maxHeartbeats 4000000 in
set_option maxRecDepth 100000 in
theorem kwX1_become {p : Program} {l : Launch} {e : Env} {R : Room} {s : State} {m : MethodId} {args : Array Value} {below : List Frame} {meth : Method} {c : Code} {cells slots : Nat} {Q : State → Prop} {A : Nat → Prop} {H0 : Heap} {D : va_G} {cI cJ cS : ClassId} (hx : p.tables.exec = Jvm.exec) (hb : c.code = cX1_become) (hml : c.maxLocals = 2) (hown : s.vm.findClass RX1 = some m.cls) (hts : ∀ w ∈ wsX1_become, w.before args s = true) (hN : sx_N s) (hK : va_K D vwCl (sx_T cI cJ cS) s) (hA : ∀ q, H0.size ≤ q → A q) (hRf : 1 ≤ R.frames) (hRl : 26 ≤ R.locals) (hRc : cells ≤ R.cells ∧ slots ≤ R.slots) (p_h p_knows_a p_seals_a p_dates_a p_draws_a o_h o_knows_a o_seals_a o_dates_a o_draws_a : Nat) (p_knows : Nat → Int64) (p_seals : Nat → Int64) (p_dates : Nat → Int32) (p_draws : Nat → Int32) (p_next : Int32) (p_steps : Int32) (o_knows : Nat → Int64) (o_seals : Nat → Int64) (o_dates : Nat → Int32) (o_draws : Nat → Int32) (o_next : Int32) (o_steps : Int32) (F : Nat) (w_p_knows : Nat → Int64) (w_p_seals : Nat → Int64) (w_p_dates : Nat → Int32) (w_p_draws : Nat → Int32) (w_p_next : Int32) (w_p_steps : Int32) (hM : fnX1_become F p_knows p_seals p_dates p_draws p_next p_steps o_knows o_seals o_dates o_draws o_next o_steps = some (w_p_knows, w_p_seals, w_p_dates, w_p_draws, w_p_next, w_p_steps)) (H : Heap) (locs : List Loc) (ls : Array Slot) (hl : lv_has ls 2 [(0, .ref p_h), (1, .ref o_h)]) (hP : va_P D vwCl [(p_h, .inr (1, [.ref p_knows_a, .ref p_seals_a, .ref p_dates_a, .ref p_draws_a, .int p_next, .int p_steps])), (p_knows_a, .inl (cJ, 48, .inr (.inl p_knows))), (p_seals_a, .inl (cJ, 48, .inr (.inl p_seals))), (p_dates_a, .inl (cI, 8, .inl p_dates)), (p_draws_a, .inl (cI, 8, .inl p_draws)), (o_h, .inr (1, [.ref o_knows_a, .ref o_seals_a, .ref o_dates_a, .ref o_draws_a, .int o_next, .int o_steps])), (o_knows_a, .inl (cJ, 48, .inr (.inl o_knows))), (o_seals_a, .inl (cJ, 48, .inr (.inl o_seals))), (o_dates_a, .inl (cI, 8, .inl o_dates)), (o_draws_a, .inl (cI, 8, .inl o_draws))] H) (hD : va_D A [(p_h, .inr (1, [.ref p_knows_a, .ref p_seals_a, .ref p_dates_a, .ref p_draws_a, .int p_next, .int p_steps])), (p_knows_a, .inl (cJ, 48, .inr (.inl p_knows))), (p_seals_a, .inl (cJ, 48, .inr (.inl p_seals))), (p_dates_a, .inl (cI, 8, .inl p_dates)), (p_draws_a, .inl (cI, 8, .inl p_draws)), (o_h, .inr (1, [.ref o_knows_a, .ref o_seals_a, .ref o_dates_a, .ref o_draws_a, .int o_next, .int o_steps])), (o_knows_a, .inl (cJ, 48, .inr (.inl o_knows))), (o_seals_a, .inl (cJ, 48, .inr (.inl o_seals))), (o_dates_a, .inl (cI, 8, .inl o_dates)), (o_draws_a, .inl (cI, 8, .inl o_draws))]) (hS : va_S A H0 H locs)
    (hret : ∀ (H1 : Heap) (locs1 : List Loc) (ls1 : Array Slot) (pc1 : Nat), decode cX1_become pc1 = .ok (.return_, 1) → va_P D vwCl [(p_h, .inr (1, [.ref p_knows_a, .ref p_seals_a, .ref p_dates_a, .ref p_draws_a, .int w_p_next, .int w_p_steps])), (p_knows_a, .inl (cJ, 48, .inr (.inl w_p_knows))), (p_seals_a, .inl (cJ, 48, .inr (.inl w_p_seals))), (p_dates_a, .inl (cI, 8, .inl w_p_dates)), (p_draws_a, .inl (cI, 8, .inl w_p_draws)), (o_h, .inr (1, [.ref o_knows_a, .ref o_seals_a, .ref o_dates_a, .ref o_draws_a, .int o_next, .int o_steps])), (o_knows_a, .inl (cJ, 48, .inr (.inl o_knows))), (o_seals_a, .inl (cJ, 48, .inr (.inl o_seals))), (o_dates_a, .inl (cI, 8, .inl o_dates)), (o_draws_a, .inl (cI, 8, .inl o_draws))] H1 → va_D A [(p_h, .inr (1, [.ref p_knows_a, .ref p_seals_a, .ref p_dates_a, .ref p_draws_a, .int w_p_next, .int w_p_steps])), (p_knows_a, .inl (cJ, 48, .inr (.inl w_p_knows))), (p_seals_a, .inl (cJ, 48, .inr (.inl w_p_seals))), (p_dates_a, .inl (cI, 8, .inl w_p_dates)), (p_draws_a, .inl (cI, 8, .inl w_p_draws)), (o_h, .inr (1, [.ref o_knows_a, .ref o_seals_a, .ref o_dates_a, .ref o_draws_a, .int o_next, .int o_steps])), (o_knows_a, .inl (cJ, 48, .inr (.inl o_knows))), (o_seals_a, .inl (cJ, 48, .inr (.inl o_seals))), (o_dates_a, .inl (cI, 8, .inl o_dates)), (o_draws_a, .inl (cI, 8, .inl o_draws))] → va_S A H0 H1 locs1 → W p l e R s m args below meth c H1 locs1 cells slots Q (F0 m pc1 ls1 [])) : W p l e R s m args below meth c H locs cells slots Q (F0 m 0 ls []) := by
  have hf_9 := hts (.fieldLink RX1 9 "SealedLips$Past" "knows" "[J") (by decide +kernel)
  have hf_15 := hts (.fieldLink RX1 15 "SealedLips$Past" "seals" "[J") (by decide +kernel)
  have hf_18 := hts (.fieldLink RX1 18 "SealedLips$Past" "dates" "[I") (by decide +kernel)
  have hf_22 := hts (.fieldLink RX1 22 "SealedLips$Past" "draws" "[I") (by decide +kernel)
  have hf_31 := hts (.fieldLink RX1 31 "SealedLips$Past" "next" "I") (by decide +kernel)
  have hf_35 := hts (.fieldLink RX1 35 "SealedLips$Past" "steps" "I") (by decide +kernel)
  have hin_X1 : ∀ w ∈ wsX10, w ∈ wsX1_become := by decide +kernel
  unfold fnX1_become at hM
  refine lv_aload_n hx hb dX1_become_0 rfl (lv_at hl 1 rfl) ?_
  refine va_get (D := D) (ci := 1) (v := .ref o_knows_a) (C := RX1) (T := TX1) (N := 6) hx hb hts hin_X1 hown hK hP 5 rfl rfl 0 (by decide) hf_9 (fun _ h9 => h9) rfl dX1_become_1 ?_
  refine lv_iconst (v := 0) hx hb dX1_become_4 (by decide) ?_
  refine lv_aload_n hx hb dX1_become_5 rfl (lv_at hl 0 rfl) ?_
  refine va_get (D := D) (ci := 1) (v := .ref p_knows_a) (C := RX1) (T := TX1) (N := 6) hx hb hts hin_X1 hown hK hP 0 rfl rfl 0 (by decide) hf_9 (fun _ h9 => h9) rfl dX1_become_6 ?_
  refine lv_iconst (v := 0) hx hb dX1_become_9 (by decide) ?_
  refine lv_bipush (v := 48) hx hb dX1_become_10 (by decide) ?_
  obtain ⟨g1, hM⟩ := sx_gd_s hM
  replace g1 := sx_cp_s g1
  refine va_copyl hx hb (hml.trans hl.1.symm) hown (hts (.methodLink RX1 25 arraycopyName) (by decide +kernel)) (hts (.native arraycopyName) (by decide +kernel)) (hts (.static arraycopyName) (by decide +kernel)) (hts (.initialized "java/lang/System") (by decide +kernel)) hK hP hD hS 6 1 1 1 rfl rfl rfl rfl rfl g1.1 g1.2.1 g1.2.2.1 g1.2.2.2.1 g1.2.2.2.2 (fun _ _ => rfl) (Nat.le_trans (by decide) hRf) (Nat.le_trans (Nat.le_of_ble_eq_true rfl) hRl) dX1_become_12 (fun H locs hP hD hS => ?_)
  have hP : va_P D vwCl [(p_h, .inr (1, [.ref p_knows_a, .ref p_seals_a, .ref p_dates_a, .ref p_draws_a, .int p_next, .int p_steps])), (p_knows_a, .inl (cJ, 48, .inr (.inl (va_cpy o_knows p_knows ((0 : Int32)).toNatClampNeg ((0 : Int32)).toNatClampNeg ((48 : Int32)).toNatClampNeg)))), (p_seals_a, .inl (cJ, 48, .inr (.inl p_seals))), (p_dates_a, .inl (cI, 8, .inl p_dates)), (p_draws_a, .inl (cI, 8, .inl p_draws)), (o_h, .inr (1, [.ref o_knows_a, .ref o_seals_a, .ref o_dates_a, .ref o_draws_a, .int o_next, .int o_steps])), (o_knows_a, .inl (cJ, 48, .inr (.inl o_knows))), (o_seals_a, .inl (cJ, 48, .inr (.inl o_seals))), (o_dates_a, .inl (cI, 8, .inl o_dates)), (o_draws_a, .inl (cI, 8, .inl o_draws))] H := hP
  have hD : va_D A [(p_h, .inr (1, [.ref p_knows_a, .ref p_seals_a, .ref p_dates_a, .ref p_draws_a, .int p_next, .int p_steps])), (p_knows_a, .inl (cJ, 48, .inr (.inl (va_cpy o_knows p_knows ((0 : Int32)).toNatClampNeg ((0 : Int32)).toNatClampNeg ((48 : Int32)).toNatClampNeg)))), (p_seals_a, .inl (cJ, 48, .inr (.inl p_seals))), (p_dates_a, .inl (cI, 8, .inl p_dates)), (p_draws_a, .inl (cI, 8, .inl p_draws)), (o_h, .inr (1, [.ref o_knows_a, .ref o_seals_a, .ref o_dates_a, .ref o_draws_a, .int o_next, .int o_steps])), (o_knows_a, .inl (cJ, 48, .inr (.inl o_knows))), (o_seals_a, .inl (cJ, 48, .inr (.inl o_seals))), (o_dates_a, .inl (cI, 8, .inl o_dates)), (o_draws_a, .inl (cI, 8, .inl o_draws))] := hD
  refine lv_aload_n hx hb dX1_become_15 rfl (lv_at hl 1 rfl) ?_
  refine va_get (D := D) (ci := 1) (v := .ref o_seals_a) (C := RX1) (T := TX1) (N := 6) hx hb hts hin_X1 hown hK hP 5 rfl rfl 1 (by decide) hf_15 (fun _ h9 => h9) rfl dX1_become_16 ?_
  refine lv_iconst (v := 0) hx hb dX1_become_19 (by decide) ?_
  refine lv_aload_n hx hb dX1_become_20 rfl (lv_at hl 0 rfl) ?_
  refine va_get (D := D) (ci := 1) (v := .ref p_seals_a) (C := RX1) (T := TX1) (N := 6) hx hb hts hin_X1 hown hK hP 0 rfl rfl 1 (by decide) hf_15 (fun _ h9 => h9) rfl dX1_become_21 ?_
  refine lv_iconst (v := 0) hx hb dX1_become_24 (by decide) ?_
  refine lv_bipush (v := 48) hx hb dX1_become_25 (by decide) ?_
  obtain ⟨g2, hM⟩ := sx_gd_s hM
  replace g2 := sx_cp_s g2
  refine va_copyl hx hb (hml.trans hl.1.symm) hown (hts (.methodLink RX1 25 arraycopyName) (by decide +kernel)) (hts (.native arraycopyName) (by decide +kernel)) (hts (.static arraycopyName) (by decide +kernel)) (hts (.initialized "java/lang/System") (by decide +kernel)) hK hP hD hS 7 2 1 1 rfl rfl rfl rfl rfl g2.1 g2.2.1 g2.2.2.1 g2.2.2.2.1 g2.2.2.2.2 (fun _ _ => rfl) (Nat.le_trans (by decide) hRf) (Nat.le_trans (Nat.le_of_ble_eq_true rfl) hRl) dX1_become_27 (fun H locs hP hD hS => ?_)
  have hP : va_P D vwCl [(p_h, .inr (1, [.ref p_knows_a, .ref p_seals_a, .ref p_dates_a, .ref p_draws_a, .int p_next, .int p_steps])), (p_knows_a, .inl (cJ, 48, .inr (.inl (va_cpy o_knows p_knows ((0 : Int32)).toNatClampNeg ((0 : Int32)).toNatClampNeg ((48 : Int32)).toNatClampNeg)))), (p_seals_a, .inl (cJ, 48, .inr (.inl (va_cpy o_seals p_seals ((0 : Int32)).toNatClampNeg ((0 : Int32)).toNatClampNeg ((48 : Int32)).toNatClampNeg)))), (p_dates_a, .inl (cI, 8, .inl p_dates)), (p_draws_a, .inl (cI, 8, .inl p_draws)), (o_h, .inr (1, [.ref o_knows_a, .ref o_seals_a, .ref o_dates_a, .ref o_draws_a, .int o_next, .int o_steps])), (o_knows_a, .inl (cJ, 48, .inr (.inl o_knows))), (o_seals_a, .inl (cJ, 48, .inr (.inl o_seals))), (o_dates_a, .inl (cI, 8, .inl o_dates)), (o_draws_a, .inl (cI, 8, .inl o_draws))] H := hP
  have hD : va_D A [(p_h, .inr (1, [.ref p_knows_a, .ref p_seals_a, .ref p_dates_a, .ref p_draws_a, .int p_next, .int p_steps])), (p_knows_a, .inl (cJ, 48, .inr (.inl (va_cpy o_knows p_knows ((0 : Int32)).toNatClampNeg ((0 : Int32)).toNatClampNeg ((48 : Int32)).toNatClampNeg)))), (p_seals_a, .inl (cJ, 48, .inr (.inl (va_cpy o_seals p_seals ((0 : Int32)).toNatClampNeg ((0 : Int32)).toNatClampNeg ((48 : Int32)).toNatClampNeg)))), (p_dates_a, .inl (cI, 8, .inl p_dates)), (p_draws_a, .inl (cI, 8, .inl p_draws)), (o_h, .inr (1, [.ref o_knows_a, .ref o_seals_a, .ref o_dates_a, .ref o_draws_a, .int o_next, .int o_steps])), (o_knows_a, .inl (cJ, 48, .inr (.inl o_knows))), (o_seals_a, .inl (cJ, 48, .inr (.inl o_seals))), (o_dates_a, .inl (cI, 8, .inl o_dates)), (o_draws_a, .inl (cI, 8, .inl o_draws))] := hD
  refine lv_aload_n hx hb dX1_become_30 rfl (lv_at hl 1 rfl) ?_
  refine va_get (D := D) (ci := 1) (v := .ref o_dates_a) (C := RX1) (T := TX1) (N := 6) hx hb hts hin_X1 hown hK hP 5 rfl rfl 2 (by decide) hf_18 (fun _ h9 => h9) rfl dX1_become_31 ?_
  refine lv_iconst (v := 0) hx hb dX1_become_34 (by decide) ?_
  refine lv_aload_n hx hb dX1_become_35 rfl (lv_at hl 0 rfl) ?_
  refine va_get (D := D) (ci := 1) (v := .ref p_dates_a) (C := RX1) (T := TX1) (N := 6) hx hb hts hin_X1 hown hK hP 0 rfl rfl 2 (by decide) hf_18 (fun _ h9 => h9) rfl dX1_become_36 ?_
  refine lv_iconst (v := 0) hx hb dX1_become_39 (by decide) ?_
  refine lv_bipush (v := 8) hx hb dX1_become_40 (by decide) ?_
  obtain ⟨g3, hM⟩ := sx_gd_s hM
  replace g3 := sx_cp_s g3
  refine va_copyi hx hb (hml.trans hl.1.symm) hown (hts (.methodLink RX1 25 arraycopyName) (by decide +kernel)) (hts (.native arraycopyName) (by decide +kernel)) (hts (.static arraycopyName) (by decide +kernel)) (hts (.initialized "java/lang/System") (by decide +kernel)) hK hP hD hS 8 3 0 0 rfl rfl rfl rfl rfl g3.1 g3.2.1 g3.2.2.1 g3.2.2.2.1 g3.2.2.2.2 (fun _ _ => rfl) (Nat.le_trans (by decide) hRf) (Nat.le_trans (Nat.le_of_ble_eq_true rfl) hRl) dX1_become_42 (fun H locs hP hD hS => ?_)
  have hP : va_P D vwCl [(p_h, .inr (1, [.ref p_knows_a, .ref p_seals_a, .ref p_dates_a, .ref p_draws_a, .int p_next, .int p_steps])), (p_knows_a, .inl (cJ, 48, .inr (.inl (va_cpy o_knows p_knows ((0 : Int32)).toNatClampNeg ((0 : Int32)).toNatClampNeg ((48 : Int32)).toNatClampNeg)))), (p_seals_a, .inl (cJ, 48, .inr (.inl (va_cpy o_seals p_seals ((0 : Int32)).toNatClampNeg ((0 : Int32)).toNatClampNeg ((48 : Int32)).toNatClampNeg)))), (p_dates_a, .inl (cI, 8, .inl (va_cpy o_dates p_dates ((0 : Int32)).toNatClampNeg ((0 : Int32)).toNatClampNeg ((8 : Int32)).toNatClampNeg))), (p_draws_a, .inl (cI, 8, .inl p_draws)), (o_h, .inr (1, [.ref o_knows_a, .ref o_seals_a, .ref o_dates_a, .ref o_draws_a, .int o_next, .int o_steps])), (o_knows_a, .inl (cJ, 48, .inr (.inl o_knows))), (o_seals_a, .inl (cJ, 48, .inr (.inl o_seals))), (o_dates_a, .inl (cI, 8, .inl o_dates)), (o_draws_a, .inl (cI, 8, .inl o_draws))] H := hP
  have hD : va_D A [(p_h, .inr (1, [.ref p_knows_a, .ref p_seals_a, .ref p_dates_a, .ref p_draws_a, .int p_next, .int p_steps])), (p_knows_a, .inl (cJ, 48, .inr (.inl (va_cpy o_knows p_knows ((0 : Int32)).toNatClampNeg ((0 : Int32)).toNatClampNeg ((48 : Int32)).toNatClampNeg)))), (p_seals_a, .inl (cJ, 48, .inr (.inl (va_cpy o_seals p_seals ((0 : Int32)).toNatClampNeg ((0 : Int32)).toNatClampNeg ((48 : Int32)).toNatClampNeg)))), (p_dates_a, .inl (cI, 8, .inl (va_cpy o_dates p_dates ((0 : Int32)).toNatClampNeg ((0 : Int32)).toNatClampNeg ((8 : Int32)).toNatClampNeg))), (p_draws_a, .inl (cI, 8, .inl p_draws)), (o_h, .inr (1, [.ref o_knows_a, .ref o_seals_a, .ref o_dates_a, .ref o_draws_a, .int o_next, .int o_steps])), (o_knows_a, .inl (cJ, 48, .inr (.inl o_knows))), (o_seals_a, .inl (cJ, 48, .inr (.inl o_seals))), (o_dates_a, .inl (cI, 8, .inl o_dates)), (o_draws_a, .inl (cI, 8, .inl o_draws))] := hD
  refine lv_aload_n hx hb dX1_become_45 rfl (lv_at hl 1 rfl) ?_
  refine va_get (D := D) (ci := 1) (v := .ref o_draws_a) (C := RX1) (T := TX1) (N := 6) hx hb hts hin_X1 hown hK hP 5 rfl rfl 3 (by decide) hf_22 (fun _ h9 => h9) rfl dX1_become_46 ?_
  refine lv_iconst (v := 0) hx hb dX1_become_49 (by decide) ?_
  refine lv_aload_n hx hb dX1_become_50 rfl (lv_at hl 0 rfl) ?_
  refine va_get (D := D) (ci := 1) (v := .ref p_draws_a) (C := RX1) (T := TX1) (N := 6) hx hb hts hin_X1 hown hK hP 0 rfl rfl 3 (by decide) hf_22 (fun _ h9 => h9) rfl dX1_become_51 ?_
  refine lv_iconst (v := 0) hx hb dX1_become_54 (by decide) ?_
  refine lv_bipush (v := 8) hx hb dX1_become_55 (by decide) ?_
  obtain ⟨g4, hM⟩ := sx_gd_s hM
  replace g4 := sx_cp_s g4
  refine va_copyi hx hb (hml.trans hl.1.symm) hown (hts (.methodLink RX1 25 arraycopyName) (by decide +kernel)) (hts (.native arraycopyName) (by decide +kernel)) (hts (.static arraycopyName) (by decide +kernel)) (hts (.initialized "java/lang/System") (by decide +kernel)) hK hP hD hS 9 4 0 0 rfl rfl rfl rfl rfl g4.1 g4.2.1 g4.2.2.1 g4.2.2.2.1 g4.2.2.2.2 (fun _ _ => rfl) (Nat.le_trans (by decide) hRf) (Nat.le_trans (Nat.le_of_ble_eq_true rfl) hRl) dX1_become_57 (fun H locs hP hD hS => ?_)
  have hP : va_P D vwCl [(p_h, .inr (1, [.ref p_knows_a, .ref p_seals_a, .ref p_dates_a, .ref p_draws_a, .int p_next, .int p_steps])), (p_knows_a, .inl (cJ, 48, .inr (.inl (va_cpy o_knows p_knows ((0 : Int32)).toNatClampNeg ((0 : Int32)).toNatClampNeg ((48 : Int32)).toNatClampNeg)))), (p_seals_a, .inl (cJ, 48, .inr (.inl (va_cpy o_seals p_seals ((0 : Int32)).toNatClampNeg ((0 : Int32)).toNatClampNeg ((48 : Int32)).toNatClampNeg)))), (p_dates_a, .inl (cI, 8, .inl (va_cpy o_dates p_dates ((0 : Int32)).toNatClampNeg ((0 : Int32)).toNatClampNeg ((8 : Int32)).toNatClampNeg))), (p_draws_a, .inl (cI, 8, .inl (va_cpy o_draws p_draws ((0 : Int32)).toNatClampNeg ((0 : Int32)).toNatClampNeg ((8 : Int32)).toNatClampNeg))), (o_h, .inr (1, [.ref o_knows_a, .ref o_seals_a, .ref o_dates_a, .ref o_draws_a, .int o_next, .int o_steps])), (o_knows_a, .inl (cJ, 48, .inr (.inl o_knows))), (o_seals_a, .inl (cJ, 48, .inr (.inl o_seals))), (o_dates_a, .inl (cI, 8, .inl o_dates)), (o_draws_a, .inl (cI, 8, .inl o_draws))] H := hP
  have hD : va_D A [(p_h, .inr (1, [.ref p_knows_a, .ref p_seals_a, .ref p_dates_a, .ref p_draws_a, .int p_next, .int p_steps])), (p_knows_a, .inl (cJ, 48, .inr (.inl (va_cpy o_knows p_knows ((0 : Int32)).toNatClampNeg ((0 : Int32)).toNatClampNeg ((48 : Int32)).toNatClampNeg)))), (p_seals_a, .inl (cJ, 48, .inr (.inl (va_cpy o_seals p_seals ((0 : Int32)).toNatClampNeg ((0 : Int32)).toNatClampNeg ((48 : Int32)).toNatClampNeg)))), (p_dates_a, .inl (cI, 8, .inl (va_cpy o_dates p_dates ((0 : Int32)).toNatClampNeg ((0 : Int32)).toNatClampNeg ((8 : Int32)).toNatClampNeg))), (p_draws_a, .inl (cI, 8, .inl (va_cpy o_draws p_draws ((0 : Int32)).toNatClampNeg ((0 : Int32)).toNatClampNeg ((8 : Int32)).toNatClampNeg))), (o_h, .inr (1, [.ref o_knows_a, .ref o_seals_a, .ref o_dates_a, .ref o_draws_a, .int o_next, .int o_steps])), (o_knows_a, .inl (cJ, 48, .inr (.inl o_knows))), (o_seals_a, .inl (cJ, 48, .inr (.inl o_seals))), (o_dates_a, .inl (cI, 8, .inl o_dates)), (o_draws_a, .inl (cI, 8, .inl o_draws))] := hD
  refine lv_aload_n hx hb dX1_become_60 rfl (lv_at hl 0 rfl) ?_
  refine lv_aload_n hx hb dX1_become_61 rfl (lv_at hl 1 rfl) ?_
  refine va_get (D := D) (ci := 1) (v := .int o_next) (C := RX1) (T := TX1) (N := 6) hx hb hts hin_X1 hown hK hP 5 rfl rfl 4 (by decide) hf_31 (fun _ h9 => h9) rfl dX1_become_62 ?_
  refine va_put (D := D) (ci := 1) (v := .int o_next) (ty := .int) (C := RX1) (T := TX1) (N := 6) hx hb hts hin_X1 tyX1 tyX1_ok nmX1 hown hK hP hD hS 0 rfl rfl 4 (by decide) hf_31 (fun _ h9 => h9) rfl (tyX1_ok 4 (by decide)) rfl rfl (Nat.le_of_ble_eq_true rfl) dX1_become_65 (fun H locs hP hD hS => ?_)
  have hP : va_P D vwCl [(p_h, .inr (1, [.ref p_knows_a, .ref p_seals_a, .ref p_dates_a, .ref p_draws_a, .int o_next, .int p_steps])), (p_knows_a, .inl (cJ, 48, .inr (.inl (va_cpy o_knows p_knows ((0 : Int32)).toNatClampNeg ((0 : Int32)).toNatClampNeg ((48 : Int32)).toNatClampNeg)))), (p_seals_a, .inl (cJ, 48, .inr (.inl (va_cpy o_seals p_seals ((0 : Int32)).toNatClampNeg ((0 : Int32)).toNatClampNeg ((48 : Int32)).toNatClampNeg)))), (p_dates_a, .inl (cI, 8, .inl (va_cpy o_dates p_dates ((0 : Int32)).toNatClampNeg ((0 : Int32)).toNatClampNeg ((8 : Int32)).toNatClampNeg))), (p_draws_a, .inl (cI, 8, .inl (va_cpy o_draws p_draws ((0 : Int32)).toNatClampNeg ((0 : Int32)).toNatClampNeg ((8 : Int32)).toNatClampNeg))), (o_h, .inr (1, [.ref o_knows_a, .ref o_seals_a, .ref o_dates_a, .ref o_draws_a, .int o_next, .int o_steps])), (o_knows_a, .inl (cJ, 48, .inr (.inl o_knows))), (o_seals_a, .inl (cJ, 48, .inr (.inl o_seals))), (o_dates_a, .inl (cI, 8, .inl o_dates)), (o_draws_a, .inl (cI, 8, .inl o_draws))] H := hP
  have hD : va_D A [(p_h, .inr (1, [.ref p_knows_a, .ref p_seals_a, .ref p_dates_a, .ref p_draws_a, .int o_next, .int p_steps])), (p_knows_a, .inl (cJ, 48, .inr (.inl (va_cpy o_knows p_knows ((0 : Int32)).toNatClampNeg ((0 : Int32)).toNatClampNeg ((48 : Int32)).toNatClampNeg)))), (p_seals_a, .inl (cJ, 48, .inr (.inl (va_cpy o_seals p_seals ((0 : Int32)).toNatClampNeg ((0 : Int32)).toNatClampNeg ((48 : Int32)).toNatClampNeg)))), (p_dates_a, .inl (cI, 8, .inl (va_cpy o_dates p_dates ((0 : Int32)).toNatClampNeg ((0 : Int32)).toNatClampNeg ((8 : Int32)).toNatClampNeg))), (p_draws_a, .inl (cI, 8, .inl (va_cpy o_draws p_draws ((0 : Int32)).toNatClampNeg ((0 : Int32)).toNatClampNeg ((8 : Int32)).toNatClampNeg))), (o_h, .inr (1, [.ref o_knows_a, .ref o_seals_a, .ref o_dates_a, .ref o_draws_a, .int o_next, .int o_steps])), (o_knows_a, .inl (cJ, 48, .inr (.inl o_knows))), (o_seals_a, .inl (cJ, 48, .inr (.inl o_seals))), (o_dates_a, .inl (cI, 8, .inl o_dates)), (o_draws_a, .inl (cI, 8, .inl o_draws))] := hD
  refine lv_aload_n hx hb dX1_become_68 rfl (lv_at hl 0 rfl) ?_
  refine lv_aload_n hx hb dX1_become_69 rfl (lv_at hl 1 rfl) ?_
  refine va_get (D := D) (ci := 1) (v := .int o_steps) (C := RX1) (T := TX1) (N := 6) hx hb hts hin_X1 hown hK hP 5 rfl rfl 5 (by decide) hf_35 (fun _ h9 => h9) rfl dX1_become_70 ?_
  refine va_put (D := D) (ci := 1) (v := .int o_steps) (ty := .int) (C := RX1) (T := TX1) (N := 6) hx hb hts hin_X1 tyX1 tyX1_ok nmX1 hown hK hP hD hS 0 rfl rfl 5 (by decide) hf_35 (fun _ h9 => h9) rfl (tyX1_ok 5 (by decide)) rfl rfl (Nat.le_of_ble_eq_true rfl) dX1_become_73 (fun H locs hP hD hS => ?_)
  have hP : va_P D vwCl [(p_h, .inr (1, [.ref p_knows_a, .ref p_seals_a, .ref p_dates_a, .ref p_draws_a, .int o_next, .int o_steps])), (p_knows_a, .inl (cJ, 48, .inr (.inl (va_cpy o_knows p_knows ((0 : Int32)).toNatClampNeg ((0 : Int32)).toNatClampNeg ((48 : Int32)).toNatClampNeg)))), (p_seals_a, .inl (cJ, 48, .inr (.inl (va_cpy o_seals p_seals ((0 : Int32)).toNatClampNeg ((0 : Int32)).toNatClampNeg ((48 : Int32)).toNatClampNeg)))), (p_dates_a, .inl (cI, 8, .inl (va_cpy o_dates p_dates ((0 : Int32)).toNatClampNeg ((0 : Int32)).toNatClampNeg ((8 : Int32)).toNatClampNeg))), (p_draws_a, .inl (cI, 8, .inl (va_cpy o_draws p_draws ((0 : Int32)).toNatClampNeg ((0 : Int32)).toNatClampNeg ((8 : Int32)).toNatClampNeg))), (o_h, .inr (1, [.ref o_knows_a, .ref o_seals_a, .ref o_dates_a, .ref o_draws_a, .int o_next, .int o_steps])), (o_knows_a, .inl (cJ, 48, .inr (.inl o_knows))), (o_seals_a, .inl (cJ, 48, .inr (.inl o_seals))), (o_dates_a, .inl (cI, 8, .inl o_dates)), (o_draws_a, .inl (cI, 8, .inl o_draws))] H := hP
  have hD : va_D A [(p_h, .inr (1, [.ref p_knows_a, .ref p_seals_a, .ref p_dates_a, .ref p_draws_a, .int o_next, .int o_steps])), (p_knows_a, .inl (cJ, 48, .inr (.inl (va_cpy o_knows p_knows ((0 : Int32)).toNatClampNeg ((0 : Int32)).toNatClampNeg ((48 : Int32)).toNatClampNeg)))), (p_seals_a, .inl (cJ, 48, .inr (.inl (va_cpy o_seals p_seals ((0 : Int32)).toNatClampNeg ((0 : Int32)).toNatClampNeg ((48 : Int32)).toNatClampNeg)))), (p_dates_a, .inl (cI, 8, .inl (va_cpy o_dates p_dates ((0 : Int32)).toNatClampNeg ((0 : Int32)).toNatClampNeg ((8 : Int32)).toNatClampNeg))), (p_draws_a, .inl (cI, 8, .inl (va_cpy o_draws p_draws ((0 : Int32)).toNatClampNeg ((0 : Int32)).toNatClampNeg ((8 : Int32)).toNatClampNeg))), (o_h, .inr (1, [.ref o_knows_a, .ref o_seals_a, .ref o_dates_a, .ref o_draws_a, .int o_next, .int o_steps])), (o_knows_a, .inl (cJ, 48, .inr (.inl o_knows))), (o_seals_a, .inl (cJ, 48, .inr (.inl o_seals))), (o_dates_a, .inl (cI, 8, .inl o_dates)), (o_draws_a, .inl (cI, 8, .inl o_draws))] := hD
  obtain ⟨rfl, rfl, rfl, rfl, rfl, rfl⟩ := sx_o6 hM
  exact hret _ _ _ _ dX1_become_76 (hP.sub [0, 1, 2, 3, 4, 5, 6, 7, 8, 9] rfl) (hD.sub [0, 1, 2, 3, 4, 5, 6, 7, 8, 9] (by decide) rfl) hS
set_option maxHeartbeats 4000000 in
set_option maxRecDepth 100000 in
theorem mtX1_become (l : Launch) (D : va_G) (cI cJ cS : ClassId) (sz : Nat) (p_h p_knows_a p_seals_a p_dates_a p_draws_a o_h o_knows_a o_seals_a o_dates_a o_draws_a : Nat) (p_knows : Nat → Int64) (p_seals : Nat → Int64) (p_dates : Nat → Int32) (p_draws : Nat → Int32) (p_next : Int32) (p_steps : Int32) (o_knows : Nat → Int64) (o_seals : Nat → Int64) (o_dates : Nat → Int32) (o_draws : Nat → Int32) (o_next : Int32) (o_steps : Int32) (F : Nat) (w_p_knows : Nat → Int64) (w_p_seals : Nat → Int64) (w_p_dates : Nat → Int32) (w_p_draws : Nat → Int32) (w_p_next : Int32) (w_p_steps : Int32) (hM : fnX1_become F p_knows p_seals p_dates p_draws p_next p_steps o_knows o_seals o_dates o_draws o_next o_steps = some (w_p_knows, w_p_seals, w_p_dates, w_p_draws, w_p_next, w_p_steps)) : sx_MV l yX1_become wsX1_become ({ frames := 1, cells := 0, slots := 0, locals := 26 }) D (sx_T cI cJ cS) sz [.ref p_h, .ref o_h] [(p_h, .inr (1, [.ref p_knows_a, .ref p_seals_a, .ref p_dates_a, .ref p_draws_a, .int p_next, .int p_steps])), (p_knows_a, .inl (cJ, 48, .inr (.inl p_knows))), (p_seals_a, .inl (cJ, 48, .inr (.inl p_seals))), (p_dates_a, .inl (cI, 8, .inl p_dates)), (p_draws_a, .inl (cI, 8, .inl p_draws)), (o_h, .inr (1, [.ref o_knows_a, .ref o_seals_a, .ref o_dates_a, .ref o_draws_a, .int o_next, .int o_steps])), (o_knows_a, .inl (cJ, 48, .inr (.inl o_knows))), (o_seals_a, .inl (cJ, 48, .inr (.inl o_seals))), (o_dates_a, .inl (cI, 8, .inl o_dates)), (o_draws_a, .inl (cI, 8, .inl o_draws))] [(p_h, .inr (1, [.ref p_knows_a, .ref p_seals_a, .ref p_dates_a, .ref p_draws_a, .int w_p_next, .int w_p_steps])), (p_knows_a, .inl (cJ, 48, .inr (.inl w_p_knows))), (p_seals_a, .inl (cJ, 48, .inr (.inl w_p_seals))), (p_dates_a, .inl (cI, 8, .inl w_p_dates)), (p_draws_a, .inl (cI, 8, .inl w_p_draws)), (o_h, .inr (1, [.ref o_knows_a, .ref o_seals_a, .ref o_dates_a, .ref o_draws_a, .int o_next, .int o_steps])), (o_knows_a, .inl (cJ, 48, .inr (.inl o_knows))), (o_seals_a, .inl (cJ, 48, .inr (.inl o_seals))), (o_dates_a, .inl (cI, 8, .inl o_dates)), (o_draws_a, .inl (cI, 8, .inl o_draws))] := by
  refine Met.ofW (cc := cX1_become) (maxL := 2) (ret := none) (by decide) rfl ?_
  intro p e s m args below meth c s₁ B hml hv
  obtain ⟨rfl, hsz, hN, hP, hK, hD0⟩ := hv
  subst hsz
  have hl := lv_entry ([.ref p_h, .ref o_h]) (n := 2) (Nat.le_of_ble_eq_true rfl)
  rw [lg_entry_eq]
  generalize (lg_sl ([.ref p_h, .ref o_h]) ++ List.replicate (2 - (lg_sl ([.ref p_h, .ref o_h])).length) Slot.unset).toArray = ls at hl ⊢
  exact kwX1_become B.exec B.bytes hml (findClass_of_methodNamed B.named) (atoms_spec (ws := wsX1_become) B.pre) hN hK (fun q h => Or.inr h) (by decide) (by decide) ⟨Nat.zero_le _, Nat.zero_le _⟩ p_h p_knows_a p_seals_a p_dates_a p_draws_a o_h o_knows_a o_seals_a o_dates_a o_draws_a p_knows p_seals p_dates p_draws p_next p_steps o_knows o_seals o_dates o_draws o_next o_steps F w_p_knows w_p_seals w_p_dates w_p_draws w_p_next w_p_steps hM _ _ _ hl hP hD0.self va_S.rf (fun H1 locs1 ls1 pc1 hd hP hD hS => W.vret B.exec B.bytes B.returns (fun t ht hW => ⟨⟨(), rfl, trivial, by rw [ht]; exact hP, hD⟩, hS.F ht⟩) hS.2.2 hd)

def fnX1_forget (F : Nat) (p_steps : Int32) : Option (Int32) :=
  (some ((0 : Int32)))
set_option maxHeartbeats 4000000 in
set_option maxRecDepth 100000 in
theorem kwX1_forget {p : Program} {l : Launch} {e : Env} {R : Room} {s : State} {m : MethodId} {args : Array Value} {below : List Frame} {meth : Method} {c : Code} {cells slots : Nat} {Q : State → Prop} {A : Nat → Prop} {H0 : Heap} {D : va_G} {cI cJ cS : ClassId} (hx : p.tables.exec = Jvm.exec) (hb : c.code = cX1_forget) (hml : c.maxLocals = 1) (hown : s.vm.findClass RX1 = some m.cls) (hts : ∀ w ∈ wsX1_forget, w.before args s = true) (hN : sx_N s) (hK : va_K D vwCl (sx_T cI cJ cS) s) (hA : ∀ q, H0.size ≤ q → A q) (hRf : 0 ≤ R.frames) (hRl : 0 ≤ R.locals) (hRc : cells ≤ R.cells ∧ slots ≤ R.slots) (p_h p_knows_a p_seals_a p_dates_a p_draws_a : Nat) (p_next : Int32) (p_steps : Int32) (F : Nat) (w_p_steps : Int32) (hM : fnX1_forget F p_steps = some w_p_steps) (H : Heap) (locs : List Loc) (ls : Array Slot) (hl : lv_has ls 1 [(0, .ref p_h)]) (hP : va_P D vwCl [(p_h, .inr (1, [.ref p_knows_a, .ref p_seals_a, .ref p_dates_a, .ref p_draws_a, .int p_next, .int p_steps]))] H) (hD : va_D A [(p_h, .inr (1, [.ref p_knows_a, .ref p_seals_a, .ref p_dates_a, .ref p_draws_a, .int p_next, .int p_steps]))]) (hS : va_S A H0 H locs)
    (hret : ∀ (H1 : Heap) (locs1 : List Loc) (ls1 : Array Slot) (pc1 : Nat), decode cX1_forget pc1 = .ok (.return_, 1) → va_P D vwCl [(p_h, .inr (1, [.ref p_knows_a, .ref p_seals_a, .ref p_dates_a, .ref p_draws_a, .int p_next, .int w_p_steps]))] H1 → va_D A [(p_h, .inr (1, [.ref p_knows_a, .ref p_seals_a, .ref p_dates_a, .ref p_draws_a, .int p_next, .int w_p_steps]))] → va_S A H0 H1 locs1 → W p l e R s m args below meth c H1 locs1 cells slots Q (F0 m pc1 ls1 [])) : W p l e R s m args below meth c H locs cells slots Q (F0 m 0 ls []) := by
  have hf_35 := hts (.fieldLink RX1 35 "SealedLips$Past" "steps" "I") (by decide +kernel)
  have hin_X1 : ∀ w ∈ wsX10, w ∈ wsX1_forget := by decide +kernel
  unfold fnX1_forget at hM
  refine lv_aload_n hx hb dX1_forget_0 rfl (lv_at hl 0 rfl) ?_
  refine lv_iconst (v := 0) hx hb dX1_forget_1 (by decide) ?_
  refine va_put (D := D) (ci := 1) (v := .int (0 : Int32)) (ty := .int) (C := RX1) (T := TX1) (N := 6) hx hb hts hin_X1 tyX1 tyX1_ok nmX1 hown hK hP hD hS 0 rfl rfl 5 (by decide) hf_35 (fun _ h9 => h9) rfl (tyX1_ok 5 (by decide)) rfl rfl (Nat.le_of_ble_eq_true rfl) dX1_forget_2 (fun H locs hP hD hS => ?_)
  have hP : va_P D vwCl [(p_h, .inr (1, [.ref p_knows_a, .ref p_seals_a, .ref p_dates_a, .ref p_draws_a, .int p_next, .int (0 : Int32)]))] H := hP
  have hD : va_D A [(p_h, .inr (1, [.ref p_knows_a, .ref p_seals_a, .ref p_dates_a, .ref p_draws_a, .int p_next, .int (0 : Int32)]))] := hD
  obtain rfl := sx_o1 hM
  exact hret _ _ _ _ dX1_forget_5 (hP.sub [0] rfl) (hD.sub [0] (by decide) rfl) hS
set_option maxHeartbeats 4000000 in
set_option maxRecDepth 100000 in
theorem mtX1_forget (l : Launch) (D : va_G) (cI cJ cS : ClassId) (sz : Nat) (p_h p_knows_a p_seals_a p_dates_a p_draws_a : Nat) (p_next : Int32) (p_steps : Int32) (F : Nat) (w_p_steps : Int32) (hM : fnX1_forget F p_steps = some w_p_steps) : sx_MV l yX1_forget wsX1_forget ({ frames := 0, cells := 0, slots := 0, locals := 0 }) D (sx_T cI cJ cS) sz [.ref p_h] [(p_h, .inr (1, [.ref p_knows_a, .ref p_seals_a, .ref p_dates_a, .ref p_draws_a, .int p_next, .int p_steps]))] [(p_h, .inr (1, [.ref p_knows_a, .ref p_seals_a, .ref p_dates_a, .ref p_draws_a, .int p_next, .int w_p_steps]))] := by
  refine Met.ofW (cc := cX1_forget) (maxL := 1) (ret := none) (by decide) rfl ?_
  intro p e s m args below meth c s₁ B hml hv
  obtain ⟨rfl, hsz, hN, hP, hK, hD0⟩ := hv
  subst hsz
  have hl := lv_entry ([.ref p_h]) (n := 1) (Nat.le_of_ble_eq_true rfl)
  rw [lg_entry_eq]
  generalize (lg_sl ([.ref p_h]) ++ List.replicate (1 - (lg_sl ([.ref p_h])).length) Slot.unset).toArray = ls at hl ⊢
  exact kwX1_forget B.exec B.bytes hml (findClass_of_methodNamed B.named) (atoms_spec (ws := wsX1_forget) B.pre) hN hK (fun q h => Or.inr h) (by decide) (by decide) ⟨Nat.zero_le _, Nat.zero_le _⟩ p_h p_knows_a p_seals_a p_dates_a p_draws_a p_next p_steps F w_p_steps hM _ _ _ hl hP hD0.self va_S.rf (fun H1 locs1 ls1 pc1 hd hP hD hS => W.vret B.exec B.bytes B.returns (fun t ht hW => ⟨⟨(), rfl, trivial, by rw [ht]; exact hP, hD⟩, hS.F ht⟩) hS.2.2 hd)

def fnX1_keep (F : Nat) (p_knows : Nat → Int64) (p_seals : Nat → Int64) (p_dates : Nat → Int32) (p_draws : Nat → Int32) (p_next : Int32) (p_steps : Int32) (c_knows : Nat → Int64) (c_seals : Nat → Int64) (c_day : Int32) (c_draw : Int32) : Option ((Nat → Int64) × (Nat → Int64) × (Nat → Int32) × (Nat → Int32) × Int32 × Int32) :=
  sx_gd (sx_cp (0 : Int32) (p_next * (6 : Int32)) (6 : Int32) 6 48) (sx_gd (sx_cp (0 : Int32) (p_next * (6 : Int32)) (6 : Int32) 6 48) (sx_gd (sx_ib p_next 8) (sx_gd (sx_ib p_next 8) ((some ((va_cpy c_knows p_knows ((0 : Int32)).toNatClampNeg ((p_next * (6 : Int32))).toNatClampNeg ((6 : Int32)).toNatClampNeg), (va_cpy c_seals p_seals ((0 : Int32)).toNatClampNeg ((p_next * (6 : Int32))).toNatClampNeg ((6 : Int32)).toNatClampNeg), (upd p_dates (p_next).toNatClampNeg c_day), (upd p_draws (p_next).toNatClampNeg c_draw), ((p_next + (1 : Int32)) - (p_next + (1 : Int32)) / (8 : Int32) * (8 : Int32)), (if (8 : Int32) < (p_steps + (1 : Int32)) then (8 : Int32) else (p_steps + (1 : Int32)))))))))
set_option maxHeartbeats 4000000 in
set_option maxRecDepth 100000 in
theorem kwX1_keep {p : Program} {l : Launch} {e : Env} {R : Room} {s : State} {m : MethodId} {args : Array Value} {below : List Frame} {meth : Method} {c : Code} {cells slots : Nat} {Q : State → Prop} {A : Nat → Prop} {H0 : Heap} {D : va_G} {cI cJ cS : ClassId} (hx : p.tables.exec = Jvm.exec) (hb : c.code = cX1_keep) (hml : c.maxLocals = 2) (hown : s.vm.findClass RX1 = some m.cls) (hts : ∀ w ∈ wsX1_keep, w.before args s = true) (hN : sx_N s) (hK : va_K D vwCl (sx_T cI cJ cS) s) (hA : ∀ q, H0.size ≤ q → A q) (hRf : 1 ≤ R.frames) (hRl : 26 ≤ R.locals) (hRc : cells ≤ R.cells ∧ slots ≤ R.slots) (p_h p_knows_a p_seals_a p_dates_a p_draws_a c_h c_kinds_a c_seating_a c_knows_a c_seals_a c_telling_a : Nat) (p_knows : Nat → Int64) (p_seals : Nat → Int64) (p_dates : Nat → Int32) (p_draws : Nat → Int32) (p_next : Int32) (p_steps : Int32) (c_knows : Nat → Int64) (c_seals : Nat → Int64) (c_persons : Int32) (c_wax : Int32) (c_week : Int32) (c_day : Int32) (c_draw : Int32) (F : Nat) (w_p_knows : Nat → Int64) (w_p_seals : Nat → Int64) (w_p_dates : Nat → Int32) (w_p_draws : Nat → Int32) (w_p_next : Int32) (w_p_steps : Int32) (hM : fnX1_keep F p_knows p_seals p_dates p_draws p_next p_steps c_knows c_seals c_day c_draw = some (w_p_knows, w_p_seals, w_p_dates, w_p_draws, w_p_next, w_p_steps)) (H : Heap) (locs : List Loc) (ls : Array Slot) (hl : lv_has ls 2 [(0, .ref p_h), (1, .ref c_h)]) (hP : va_P D vwCl [(p_h, .inr (1, [.ref p_knows_a, .ref p_seals_a, .ref p_dates_a, .ref p_draws_a, .int p_next, .int p_steps])), (p_knows_a, .inl (cJ, 48, .inr (.inl p_knows))), (p_seals_a, .inl (cJ, 48, .inr (.inl p_seals))), (p_dates_a, .inl (cI, 8, .inl p_dates)), (p_draws_a, .inl (cI, 8, .inl p_draws)), (c_h, .inr (0, [.ref c_kinds_a, .ref c_seating_a, .ref c_knows_a, .ref c_seals_a, .ref c_telling_a, .int c_persons, .int c_wax, .int c_week, .int c_day, .int c_draw])), (c_knows_a, .inl (cJ, 6, .inr (.inl c_knows))), (c_seals_a, .inl (cJ, 6, .inr (.inl c_seals)))] H) (hD : va_D A [(p_h, .inr (1, [.ref p_knows_a, .ref p_seals_a, .ref p_dates_a, .ref p_draws_a, .int p_next, .int p_steps])), (p_knows_a, .inl (cJ, 48, .inr (.inl p_knows))), (p_seals_a, .inl (cJ, 48, .inr (.inl p_seals))), (p_dates_a, .inl (cI, 8, .inl p_dates)), (p_draws_a, .inl (cI, 8, .inl p_draws)), (c_h, .inr (0, [.ref c_kinds_a, .ref c_seating_a, .ref c_knows_a, .ref c_seals_a, .ref c_telling_a, .int c_persons, .int c_wax, .int c_week, .int c_day, .int c_draw])), (c_knows_a, .inl (cJ, 6, .inr (.inl c_knows))), (c_seals_a, .inl (cJ, 6, .inr (.inl c_seals)))]) (hS : va_S A H0 H locs)
    (hret : ∀ (H1 : Heap) (locs1 : List Loc) (ls1 : Array Slot) (pc1 : Nat), decode cX1_keep pc1 = .ok (.return_, 1) → va_P D vwCl [(p_h, .inr (1, [.ref p_knows_a, .ref p_seals_a, .ref p_dates_a, .ref p_draws_a, .int w_p_next, .int w_p_steps])), (p_knows_a, .inl (cJ, 48, .inr (.inl w_p_knows))), (p_seals_a, .inl (cJ, 48, .inr (.inl w_p_seals))), (p_dates_a, .inl (cI, 8, .inl w_p_dates)), (p_draws_a, .inl (cI, 8, .inl w_p_draws)), (c_h, .inr (0, [.ref c_kinds_a, .ref c_seating_a, .ref c_knows_a, .ref c_seals_a, .ref c_telling_a, .int c_persons, .int c_wax, .int c_week, .int c_day, .int c_draw])), (c_knows_a, .inl (cJ, 6, .inr (.inl c_knows))), (c_seals_a, .inl (cJ, 6, .inr (.inl c_seals)))] H1 → va_D A [(p_h, .inr (1, [.ref p_knows_a, .ref p_seals_a, .ref p_dates_a, .ref p_draws_a, .int w_p_next, .int w_p_steps])), (p_knows_a, .inl (cJ, 48, .inr (.inl w_p_knows))), (p_seals_a, .inl (cJ, 48, .inr (.inl w_p_seals))), (p_dates_a, .inl (cI, 8, .inl w_p_dates)), (p_draws_a, .inl (cI, 8, .inl w_p_draws)), (c_h, .inr (0, [.ref c_kinds_a, .ref c_seating_a, .ref c_knows_a, .ref c_seals_a, .ref c_telling_a, .int c_persons, .int c_wax, .int c_week, .int c_day, .int c_draw])), (c_knows_a, .inl (cJ, 6, .inr (.inl c_knows))), (c_seals_a, .inl (cJ, 6, .inr (.inl c_seals)))] → va_S A H0 H1 locs1 → W p l e R s m args below meth c H1 locs1 cells slots Q (F0 m pc1 ls1 [])) : W p l e R s m args below meth c H locs cells slots Q (F0 m 0 ls []) := by
  have hf_9 := hts (.fieldLink RX1 9 "SealedLips$Past" "knows" "[J") (by decide +kernel)
  have hf_15 := hts (.fieldLink RX1 15 "SealedLips$Past" "seals" "[J") (by decide +kernel)
  have hf_18 := hts (.fieldLink RX1 18 "SealedLips$Past" "dates" "[I") (by decide +kernel)
  have hf_22 := hts (.fieldLink RX1 22 "SealedLips$Past" "draws" "[I") (by decide +kernel)
  have hf_31 := hts (.fieldLink RX1 31 "SealedLips$Past" "next" "I") (by decide +kernel)
  have hf_35 := hts (.fieldLink RX1 35 "SealedLips$Past" "steps" "I") (by decide +kernel)
  have hf_38 := sx_N.f (args := args) hN (show Cond.fieldLinkNest "SealedLips$Past" 38 "SealedLips$Court" "knows" "[J" "SealedLips" ∈ sx_nw by decide +kernel)
  have hf_41 := sx_N.f (args := args) hN (show Cond.fieldLinkNest "SealedLips$Past" 41 "SealedLips$Court" "seals" "[J" "SealedLips" ∈ sx_nw by decide +kernel)
  have hf_42 := sx_N.f (args := args) hN (show Cond.fieldLinkNest "SealedLips$Past" 42 "SealedLips$Court" "day" "I" "SealedLips" ∈ sx_nw by decide +kernel)
  have hf_45 := sx_N.f (args := args) hN (show Cond.fieldLinkNest "SealedLips$Past" 45 "SealedLips$Court" "draw" "I" "SealedLips" ∈ sx_nw by decide +kernel)
  have hin_X0 : ∀ w ∈ wsX00, w ∈ wsX1_keep := by decide +kernel
  have hin_X1 : ∀ w ∈ wsX10, w ∈ wsX1_keep := by decide +kernel
  unfold fnX1_keep at hM
  refine lv_aload_n hx hb dX1_keep_0 rfl (lv_at hl 1 rfl) ?_
  refine va_getN (D := D) (ci := 0) (v := .ref c_knows_a) (C := RX0) (T := TX0) (N := 10) hx hb hts hin_X0 hown hK hP 5 rfl rfl 2 (by decide) hf_38 (fun _ h9 => h9) rfl dX1_keep_1 ?_
  refine lv_iconst (v := 0) hx hb dX1_keep_4 (by decide) ?_
  refine lv_aload_n hx hb dX1_keep_5 rfl (lv_at hl 0 rfl) ?_
  refine va_get (D := D) (ci := 1) (v := .ref p_knows_a) (C := RX1) (T := TX1) (N := 6) hx hb hts hin_X1 hown hK hP 0 rfl rfl 0 (by decide) hf_9 (fun _ h9 => h9) rfl dX1_keep_6 ?_
  refine lv_aload_n hx hb dX1_keep_9 rfl (lv_at hl 0 rfl) ?_
  refine va_get (D := D) (ci := 1) (v := .int p_next) (C := RX1) (T := TX1) (N := 6) hx hb hts hin_X1 hown hK hP 0 rfl rfl 4 (by decide) hf_31 (fun _ h9 => h9) rfl dX1_keep_10 ?_
  refine lv_bipush (v := 6) hx hb dX1_keep_13 (by decide) ?_
  refine lv_imul hx hb dX1_keep_15 ?_
  refine lv_bipush (v := 6) hx hb dX1_keep_16 (by decide) ?_
  obtain ⟨g1, hM⟩ := sx_gd_s hM
  replace g1 := sx_cp_s g1
  refine va_copyl hx hb (hml.trans hl.1.symm) hown (hts (.methodLink RX1 25 arraycopyName) (by decide +kernel)) (hts (.native arraycopyName) (by decide +kernel)) (hts (.static arraycopyName) (by decide +kernel)) (hts (.initialized "java/lang/System") (by decide +kernel)) hK hP hD hS 6 1 1 1 rfl rfl rfl rfl rfl g1.1 g1.2.1 g1.2.2.1 g1.2.2.2.1 g1.2.2.2.2 (fun _ _ => rfl) (Nat.le_trans (by decide) hRf) (Nat.le_trans (Nat.le_of_ble_eq_true rfl) hRl) dX1_keep_18 (fun H locs hP hD hS => ?_)
  have hP : va_P D vwCl [(p_h, .inr (1, [.ref p_knows_a, .ref p_seals_a, .ref p_dates_a, .ref p_draws_a, .int p_next, .int p_steps])), (p_knows_a, .inl (cJ, 48, .inr (.inl (va_cpy c_knows p_knows ((0 : Int32)).toNatClampNeg ((p_next * (6 : Int32))).toNatClampNeg ((6 : Int32)).toNatClampNeg)))), (p_seals_a, .inl (cJ, 48, .inr (.inl p_seals))), (p_dates_a, .inl (cI, 8, .inl p_dates)), (p_draws_a, .inl (cI, 8, .inl p_draws)), (c_h, .inr (0, [.ref c_kinds_a, .ref c_seating_a, .ref c_knows_a, .ref c_seals_a, .ref c_telling_a, .int c_persons, .int c_wax, .int c_week, .int c_day, .int c_draw])), (c_knows_a, .inl (cJ, 6, .inr (.inl c_knows))), (c_seals_a, .inl (cJ, 6, .inr (.inl c_seals)))] H := hP
  have hD : va_D A [(p_h, .inr (1, [.ref p_knows_a, .ref p_seals_a, .ref p_dates_a, .ref p_draws_a, .int p_next, .int p_steps])), (p_knows_a, .inl (cJ, 48, .inr (.inl (va_cpy c_knows p_knows ((0 : Int32)).toNatClampNeg ((p_next * (6 : Int32))).toNatClampNeg ((6 : Int32)).toNatClampNeg)))), (p_seals_a, .inl (cJ, 48, .inr (.inl p_seals))), (p_dates_a, .inl (cI, 8, .inl p_dates)), (p_draws_a, .inl (cI, 8, .inl p_draws)), (c_h, .inr (0, [.ref c_kinds_a, .ref c_seating_a, .ref c_knows_a, .ref c_seals_a, .ref c_telling_a, .int c_persons, .int c_wax, .int c_week, .int c_day, .int c_draw])), (c_knows_a, .inl (cJ, 6, .inr (.inl c_knows))), (c_seals_a, .inl (cJ, 6, .inr (.inl c_seals)))] := hD
  refine lv_aload_n hx hb dX1_keep_21 rfl (lv_at hl 1 rfl) ?_
  refine va_getN (D := D) (ci := 0) (v := .ref c_seals_a) (C := RX0) (T := TX0) (N := 10) hx hb hts hin_X0 hown hK hP 5 rfl rfl 3 (by decide) hf_41 (fun _ h9 => h9) rfl dX1_keep_22 ?_
  refine lv_iconst (v := 0) hx hb dX1_keep_25 (by decide) ?_
  refine lv_aload_n hx hb dX1_keep_26 rfl (lv_at hl 0 rfl) ?_
  refine va_get (D := D) (ci := 1) (v := .ref p_seals_a) (C := RX1) (T := TX1) (N := 6) hx hb hts hin_X1 hown hK hP 0 rfl rfl 1 (by decide) hf_15 (fun _ h9 => h9) rfl dX1_keep_27 ?_
  refine lv_aload_n hx hb dX1_keep_30 rfl (lv_at hl 0 rfl) ?_
  refine va_get (D := D) (ci := 1) (v := .int p_next) (C := RX1) (T := TX1) (N := 6) hx hb hts hin_X1 hown hK hP 0 rfl rfl 4 (by decide) hf_31 (fun _ h9 => h9) rfl dX1_keep_31 ?_
  refine lv_bipush (v := 6) hx hb dX1_keep_34 (by decide) ?_
  refine lv_imul hx hb dX1_keep_36 ?_
  refine lv_bipush (v := 6) hx hb dX1_keep_37 (by decide) ?_
  obtain ⟨g2, hM⟩ := sx_gd_s hM
  replace g2 := sx_cp_s g2
  refine va_copyl hx hb (hml.trans hl.1.symm) hown (hts (.methodLink RX1 25 arraycopyName) (by decide +kernel)) (hts (.native arraycopyName) (by decide +kernel)) (hts (.static arraycopyName) (by decide +kernel)) (hts (.initialized "java/lang/System") (by decide +kernel)) hK hP hD hS 7 2 1 1 rfl rfl rfl rfl rfl g2.1 g2.2.1 g2.2.2.1 g2.2.2.2.1 g2.2.2.2.2 (fun _ _ => rfl) (Nat.le_trans (by decide) hRf) (Nat.le_trans (Nat.le_of_ble_eq_true rfl) hRl) dX1_keep_39 (fun H locs hP hD hS => ?_)
  have hP : va_P D vwCl [(p_h, .inr (1, [.ref p_knows_a, .ref p_seals_a, .ref p_dates_a, .ref p_draws_a, .int p_next, .int p_steps])), (p_knows_a, .inl (cJ, 48, .inr (.inl (va_cpy c_knows p_knows ((0 : Int32)).toNatClampNeg ((p_next * (6 : Int32))).toNatClampNeg ((6 : Int32)).toNatClampNeg)))), (p_seals_a, .inl (cJ, 48, .inr (.inl (va_cpy c_seals p_seals ((0 : Int32)).toNatClampNeg ((p_next * (6 : Int32))).toNatClampNeg ((6 : Int32)).toNatClampNeg)))), (p_dates_a, .inl (cI, 8, .inl p_dates)), (p_draws_a, .inl (cI, 8, .inl p_draws)), (c_h, .inr (0, [.ref c_kinds_a, .ref c_seating_a, .ref c_knows_a, .ref c_seals_a, .ref c_telling_a, .int c_persons, .int c_wax, .int c_week, .int c_day, .int c_draw])), (c_knows_a, .inl (cJ, 6, .inr (.inl c_knows))), (c_seals_a, .inl (cJ, 6, .inr (.inl c_seals)))] H := hP
  have hD : va_D A [(p_h, .inr (1, [.ref p_knows_a, .ref p_seals_a, .ref p_dates_a, .ref p_draws_a, .int p_next, .int p_steps])), (p_knows_a, .inl (cJ, 48, .inr (.inl (va_cpy c_knows p_knows ((0 : Int32)).toNatClampNeg ((p_next * (6 : Int32))).toNatClampNeg ((6 : Int32)).toNatClampNeg)))), (p_seals_a, .inl (cJ, 48, .inr (.inl (va_cpy c_seals p_seals ((0 : Int32)).toNatClampNeg ((p_next * (6 : Int32))).toNatClampNeg ((6 : Int32)).toNatClampNeg)))), (p_dates_a, .inl (cI, 8, .inl p_dates)), (p_draws_a, .inl (cI, 8, .inl p_draws)), (c_h, .inr (0, [.ref c_kinds_a, .ref c_seating_a, .ref c_knows_a, .ref c_seals_a, .ref c_telling_a, .int c_persons, .int c_wax, .int c_week, .int c_day, .int c_draw])), (c_knows_a, .inl (cJ, 6, .inr (.inl c_knows))), (c_seals_a, .inl (cJ, 6, .inr (.inl c_seals)))] := hD
  refine lv_aload_n hx hb dX1_keep_42 rfl (lv_at hl 0 rfl) ?_
  refine va_get (D := D) (ci := 1) (v := .ref p_dates_a) (C := RX1) (T := TX1) (N := 6) hx hb hts hin_X1 hown hK hP 0 rfl rfl 2 (by decide) hf_18 (fun _ h9 => h9) rfl dX1_keep_43 ?_
  refine lv_aload_n hx hb dX1_keep_46 rfl (lv_at hl 0 rfl) ?_
  refine va_get (D := D) (ci := 1) (v := .int p_next) (C := RX1) (T := TX1) (N := 6) hx hb hts hin_X1 hown hK hP 0 rfl rfl 4 (by decide) hf_31 (fun _ h9 => h9) rfl dX1_keep_47 ?_
  refine lv_aload_n hx hb dX1_keep_50 rfl (lv_at hl 1 rfl) ?_
  refine va_getN (D := D) (ci := 0) (v := .int c_day) (C := RX0) (T := TX0) (N := 10) hx hb hts hin_X0 hown hK hP 5 rfl rfl 8 (by decide) hf_42 (fun _ h9 => h9) rfl dX1_keep_51 ?_
  obtain ⟨g3, hM⟩ := sx_gd_s hM
  refine va_iast hx hb hK hP hD hS 3 0 rfl rfl (sx_ib_s g3) dX1_keep_54 (fun H locs hP hD hS => ?_)
  have hP : va_P D vwCl [(p_h, .inr (1, [.ref p_knows_a, .ref p_seals_a, .ref p_dates_a, .ref p_draws_a, .int p_next, .int p_steps])), (p_knows_a, .inl (cJ, 48, .inr (.inl (va_cpy c_knows p_knows ((0 : Int32)).toNatClampNeg ((p_next * (6 : Int32))).toNatClampNeg ((6 : Int32)).toNatClampNeg)))), (p_seals_a, .inl (cJ, 48, .inr (.inl (va_cpy c_seals p_seals ((0 : Int32)).toNatClampNeg ((p_next * (6 : Int32))).toNatClampNeg ((6 : Int32)).toNatClampNeg)))), (p_dates_a, .inl (cI, 8, .inl (upd p_dates (p_next).toNatClampNeg c_day))), (p_draws_a, .inl (cI, 8, .inl p_draws)), (c_h, .inr (0, [.ref c_kinds_a, .ref c_seating_a, .ref c_knows_a, .ref c_seals_a, .ref c_telling_a, .int c_persons, .int c_wax, .int c_week, .int c_day, .int c_draw])), (c_knows_a, .inl (cJ, 6, .inr (.inl c_knows))), (c_seals_a, .inl (cJ, 6, .inr (.inl c_seals)))] H := hP
  have hD : va_D A [(p_h, .inr (1, [.ref p_knows_a, .ref p_seals_a, .ref p_dates_a, .ref p_draws_a, .int p_next, .int p_steps])), (p_knows_a, .inl (cJ, 48, .inr (.inl (va_cpy c_knows p_knows ((0 : Int32)).toNatClampNeg ((p_next * (6 : Int32))).toNatClampNeg ((6 : Int32)).toNatClampNeg)))), (p_seals_a, .inl (cJ, 48, .inr (.inl (va_cpy c_seals p_seals ((0 : Int32)).toNatClampNeg ((p_next * (6 : Int32))).toNatClampNeg ((6 : Int32)).toNatClampNeg)))), (p_dates_a, .inl (cI, 8, .inl (upd p_dates (p_next).toNatClampNeg c_day))), (p_draws_a, .inl (cI, 8, .inl p_draws)), (c_h, .inr (0, [.ref c_kinds_a, .ref c_seating_a, .ref c_knows_a, .ref c_seals_a, .ref c_telling_a, .int c_persons, .int c_wax, .int c_week, .int c_day, .int c_draw])), (c_knows_a, .inl (cJ, 6, .inr (.inl c_knows))), (c_seals_a, .inl (cJ, 6, .inr (.inl c_seals)))] := hD
  refine lv_aload_n hx hb dX1_keep_55 rfl (lv_at hl 0 rfl) ?_
  refine va_get (D := D) (ci := 1) (v := .ref p_draws_a) (C := RX1) (T := TX1) (N := 6) hx hb hts hin_X1 hown hK hP 0 rfl rfl 3 (by decide) hf_22 (fun _ h9 => h9) rfl dX1_keep_56 ?_
  refine lv_aload_n hx hb dX1_keep_59 rfl (lv_at hl 0 rfl) ?_
  refine va_get (D := D) (ci := 1) (v := .int p_next) (C := RX1) (T := TX1) (N := 6) hx hb hts hin_X1 hown hK hP 0 rfl rfl 4 (by decide) hf_31 (fun _ h9 => h9) rfl dX1_keep_60 ?_
  refine lv_aload_n hx hb dX1_keep_63 rfl (lv_at hl 1 rfl) ?_
  refine va_getN (D := D) (ci := 0) (v := .int c_draw) (C := RX0) (T := TX0) (N := 10) hx hb hts hin_X0 hown hK hP 5 rfl rfl 9 (by decide) hf_45 (fun _ h9 => h9) rfl dX1_keep_64 ?_
  obtain ⟨g4, hM⟩ := sx_gd_s hM
  refine va_iast hx hb hK hP hD hS 4 0 rfl rfl (sx_ib_s g4) dX1_keep_67 (fun H locs hP hD hS => ?_)
  have hP : va_P D vwCl [(p_h, .inr (1, [.ref p_knows_a, .ref p_seals_a, .ref p_dates_a, .ref p_draws_a, .int p_next, .int p_steps])), (p_knows_a, .inl (cJ, 48, .inr (.inl (va_cpy c_knows p_knows ((0 : Int32)).toNatClampNeg ((p_next * (6 : Int32))).toNatClampNeg ((6 : Int32)).toNatClampNeg)))), (p_seals_a, .inl (cJ, 48, .inr (.inl (va_cpy c_seals p_seals ((0 : Int32)).toNatClampNeg ((p_next * (6 : Int32))).toNatClampNeg ((6 : Int32)).toNatClampNeg)))), (p_dates_a, .inl (cI, 8, .inl (upd p_dates (p_next).toNatClampNeg c_day))), (p_draws_a, .inl (cI, 8, .inl (upd p_draws (p_next).toNatClampNeg c_draw))), (c_h, .inr (0, [.ref c_kinds_a, .ref c_seating_a, .ref c_knows_a, .ref c_seals_a, .ref c_telling_a, .int c_persons, .int c_wax, .int c_week, .int c_day, .int c_draw])), (c_knows_a, .inl (cJ, 6, .inr (.inl c_knows))), (c_seals_a, .inl (cJ, 6, .inr (.inl c_seals)))] H := hP
  have hD : va_D A [(p_h, .inr (1, [.ref p_knows_a, .ref p_seals_a, .ref p_dates_a, .ref p_draws_a, .int p_next, .int p_steps])), (p_knows_a, .inl (cJ, 48, .inr (.inl (va_cpy c_knows p_knows ((0 : Int32)).toNatClampNeg ((p_next * (6 : Int32))).toNatClampNeg ((6 : Int32)).toNatClampNeg)))), (p_seals_a, .inl (cJ, 48, .inr (.inl (va_cpy c_seals p_seals ((0 : Int32)).toNatClampNeg ((p_next * (6 : Int32))).toNatClampNeg ((6 : Int32)).toNatClampNeg)))), (p_dates_a, .inl (cI, 8, .inl (upd p_dates (p_next).toNatClampNeg c_day))), (p_draws_a, .inl (cI, 8, .inl (upd p_draws (p_next).toNatClampNeg c_draw))), (c_h, .inr (0, [.ref c_kinds_a, .ref c_seating_a, .ref c_knows_a, .ref c_seals_a, .ref c_telling_a, .int c_persons, .int c_wax, .int c_week, .int c_day, .int c_draw])), (c_knows_a, .inl (cJ, 6, .inr (.inl c_knows))), (c_seals_a, .inl (cJ, 6, .inr (.inl c_seals)))] := hD
  refine lv_aload_n hx hb dX1_keep_68 rfl (lv_at hl 0 rfl) ?_
  refine lv_aload_n hx hb dX1_keep_69 rfl (lv_at hl 0 rfl) ?_
  refine va_get (D := D) (ci := 1) (v := .int p_next) (C := RX1) (T := TX1) (N := 6) hx hb hts hin_X1 hown hK hP 0 rfl rfl 4 (by decide) hf_31 (fun _ h9 => h9) rfl dX1_keep_70 ?_
  refine lv_iconst (v := 1) hx hb dX1_keep_73 (by decide) ?_
  refine lv_iadd hx hb dX1_keep_74 ?_
  refine lv_bipush (v := 8) hx hb dX1_keep_75 (by decide) ?_
  refine lv_irem hx hb dX1_keep_77 (by decide) ?_
  refine va_put (D := D) (ci := 1) (v := .int ((p_next + (1 : Int32)) - (p_next + (1 : Int32)) / (8 : Int32) * (8 : Int32))) (ty := .int) (C := RX1) (T := TX1) (N := 6) hx hb hts hin_X1 tyX1 tyX1_ok nmX1 hown hK hP hD hS 0 rfl rfl 4 (by decide) hf_31 (fun _ h9 => h9) rfl (tyX1_ok 4 (by decide)) rfl rfl (Nat.le_of_ble_eq_true rfl) dX1_keep_78 (fun H locs hP hD hS => ?_)
  have hP : va_P D vwCl [(p_h, .inr (1, [.ref p_knows_a, .ref p_seals_a, .ref p_dates_a, .ref p_draws_a, .int ((p_next + (1 : Int32)) - (p_next + (1 : Int32)) / (8 : Int32) * (8 : Int32)), .int p_steps])), (p_knows_a, .inl (cJ, 48, .inr (.inl (va_cpy c_knows p_knows ((0 : Int32)).toNatClampNeg ((p_next * (6 : Int32))).toNatClampNeg ((6 : Int32)).toNatClampNeg)))), (p_seals_a, .inl (cJ, 48, .inr (.inl (va_cpy c_seals p_seals ((0 : Int32)).toNatClampNeg ((p_next * (6 : Int32))).toNatClampNeg ((6 : Int32)).toNatClampNeg)))), (p_dates_a, .inl (cI, 8, .inl (upd p_dates (p_next).toNatClampNeg c_day))), (p_draws_a, .inl (cI, 8, .inl (upd p_draws (p_next).toNatClampNeg c_draw))), (c_h, .inr (0, [.ref c_kinds_a, .ref c_seating_a, .ref c_knows_a, .ref c_seals_a, .ref c_telling_a, .int c_persons, .int c_wax, .int c_week, .int c_day, .int c_draw])), (c_knows_a, .inl (cJ, 6, .inr (.inl c_knows))), (c_seals_a, .inl (cJ, 6, .inr (.inl c_seals)))] H := hP
  have hD : va_D A [(p_h, .inr (1, [.ref p_knows_a, .ref p_seals_a, .ref p_dates_a, .ref p_draws_a, .int ((p_next + (1 : Int32)) - (p_next + (1 : Int32)) / (8 : Int32) * (8 : Int32)), .int p_steps])), (p_knows_a, .inl (cJ, 48, .inr (.inl (va_cpy c_knows p_knows ((0 : Int32)).toNatClampNeg ((p_next * (6 : Int32))).toNatClampNeg ((6 : Int32)).toNatClampNeg)))), (p_seals_a, .inl (cJ, 48, .inr (.inl (va_cpy c_seals p_seals ((0 : Int32)).toNatClampNeg ((p_next * (6 : Int32))).toNatClampNeg ((6 : Int32)).toNatClampNeg)))), (p_dates_a, .inl (cI, 8, .inl (upd p_dates (p_next).toNatClampNeg c_day))), (p_draws_a, .inl (cI, 8, .inl (upd p_draws (p_next).toNatClampNeg c_draw))), (c_h, .inr (0, [.ref c_kinds_a, .ref c_seating_a, .ref c_knows_a, .ref c_seals_a, .ref c_telling_a, .int c_persons, .int c_wax, .int c_week, .int c_day, .int c_draw])), (c_knows_a, .inl (cJ, 6, .inr (.inl c_knows))), (c_seals_a, .inl (cJ, 6, .inr (.inl c_seals)))] := hD
  refine lv_aload_n hx hb dX1_keep_81 rfl (lv_at hl 0 rfl) ?_
  refine lv_aload_n hx hb dX1_keep_82 rfl (lv_at hl 0 rfl) ?_
  refine va_get (D := D) (ci := 1) (v := .int p_steps) (C := RX1) (T := TX1) (N := 6) hx hb hts hin_X1 hown hK hP 0 rfl rfl 5 (by decide) hf_35 (fun _ h9 => h9) rfl dX1_keep_83 ?_
  refine lv_iconst (v := 1) hx hb dX1_keep_86 (by decide) ?_
  refine lv_iadd hx hb dX1_keep_87 ?_
  refine lv_bipush (v := 8) hx hb dX1_keep_88 (by decide) ?_
  refine va_mmin hx hb (hml.trans hl.1.symm) hown (hts (.methodLink RX1 48 Lib.Math.min.name) (by decide +kernel)) (hts (.static Lib.Math.min.name) (by decide +kernel)) (hts (.initialized "java/lang/Math") (by decide +kernel)) (hts (.code Lib.Math.min.name Lib.Math.min.code 2 (some .int)) (by decide +kernel)) (Nat.le_trans (by decide) hRf) (Nat.le_trans (Nat.le_of_ble_eq_true rfl) hRl) hRc.1 hRc.2 dX1_keep_90 ?_
  refine va_put (D := D) (ci := 1) (v := .int (if (8 : Int32) < (p_steps + (1 : Int32)) then (8 : Int32) else (p_steps + (1 : Int32)))) (ty := .int) (C := RX1) (T := TX1) (N := 6) hx hb hts hin_X1 tyX1 tyX1_ok nmX1 hown hK hP hD hS 0 rfl rfl 5 (by decide) hf_35 (fun _ h9 => h9) rfl (tyX1_ok 5 (by decide)) rfl rfl (Nat.le_of_ble_eq_true rfl) dX1_keep_93 (fun H locs hP hD hS => ?_)
  have hP : va_P D vwCl [(p_h, .inr (1, [.ref p_knows_a, .ref p_seals_a, .ref p_dates_a, .ref p_draws_a, .int ((p_next + (1 : Int32)) - (p_next + (1 : Int32)) / (8 : Int32) * (8 : Int32)), .int (if (8 : Int32) < (p_steps + (1 : Int32)) then (8 : Int32) else (p_steps + (1 : Int32)))])), (p_knows_a, .inl (cJ, 48, .inr (.inl (va_cpy c_knows p_knows ((0 : Int32)).toNatClampNeg ((p_next * (6 : Int32))).toNatClampNeg ((6 : Int32)).toNatClampNeg)))), (p_seals_a, .inl (cJ, 48, .inr (.inl (va_cpy c_seals p_seals ((0 : Int32)).toNatClampNeg ((p_next * (6 : Int32))).toNatClampNeg ((6 : Int32)).toNatClampNeg)))), (p_dates_a, .inl (cI, 8, .inl (upd p_dates (p_next).toNatClampNeg c_day))), (p_draws_a, .inl (cI, 8, .inl (upd p_draws (p_next).toNatClampNeg c_draw))), (c_h, .inr (0, [.ref c_kinds_a, .ref c_seating_a, .ref c_knows_a, .ref c_seals_a, .ref c_telling_a, .int c_persons, .int c_wax, .int c_week, .int c_day, .int c_draw])), (c_knows_a, .inl (cJ, 6, .inr (.inl c_knows))), (c_seals_a, .inl (cJ, 6, .inr (.inl c_seals)))] H := hP
  have hD : va_D A [(p_h, .inr (1, [.ref p_knows_a, .ref p_seals_a, .ref p_dates_a, .ref p_draws_a, .int ((p_next + (1 : Int32)) - (p_next + (1 : Int32)) / (8 : Int32) * (8 : Int32)), .int (if (8 : Int32) < (p_steps + (1 : Int32)) then (8 : Int32) else (p_steps + (1 : Int32)))])), (p_knows_a, .inl (cJ, 48, .inr (.inl (va_cpy c_knows p_knows ((0 : Int32)).toNatClampNeg ((p_next * (6 : Int32))).toNatClampNeg ((6 : Int32)).toNatClampNeg)))), (p_seals_a, .inl (cJ, 48, .inr (.inl (va_cpy c_seals p_seals ((0 : Int32)).toNatClampNeg ((p_next * (6 : Int32))).toNatClampNeg ((6 : Int32)).toNatClampNeg)))), (p_dates_a, .inl (cI, 8, .inl (upd p_dates (p_next).toNatClampNeg c_day))), (p_draws_a, .inl (cI, 8, .inl (upd p_draws (p_next).toNatClampNeg c_draw))), (c_h, .inr (0, [.ref c_kinds_a, .ref c_seating_a, .ref c_knows_a, .ref c_seals_a, .ref c_telling_a, .int c_persons, .int c_wax, .int c_week, .int c_day, .int c_draw])), (c_knows_a, .inl (cJ, 6, .inr (.inl c_knows))), (c_seals_a, .inl (cJ, 6, .inr (.inl c_seals)))] := hD
  obtain ⟨rfl, rfl, rfl, rfl, rfl, rfl⟩ := sx_o6 hM
  exact hret _ _ _ _ dX1_keep_96 (hP.sub [0, 1, 2, 3, 4, 5, 6, 7] rfl) (hD.sub [0, 1, 2, 3, 4, 5, 6, 7] (by decide) rfl) hS
set_option maxHeartbeats 4000000 in
set_option maxRecDepth 100000 in
theorem mtX1_keep (l : Launch) (D : va_G) (cI cJ cS : ClassId) (sz : Nat) (p_h p_knows_a p_seals_a p_dates_a p_draws_a c_h c_kinds_a c_seating_a c_knows_a c_seals_a c_telling_a : Nat) (p_knows : Nat → Int64) (p_seals : Nat → Int64) (p_dates : Nat → Int32) (p_draws : Nat → Int32) (p_next : Int32) (p_steps : Int32) (c_knows : Nat → Int64) (c_seals : Nat → Int64) (c_persons : Int32) (c_wax : Int32) (c_week : Int32) (c_day : Int32) (c_draw : Int32) (F : Nat) (w_p_knows : Nat → Int64) (w_p_seals : Nat → Int64) (w_p_dates : Nat → Int32) (w_p_draws : Nat → Int32) (w_p_next : Int32) (w_p_steps : Int32) (hM : fnX1_keep F p_knows p_seals p_dates p_draws p_next p_steps c_knows c_seals c_day c_draw = some (w_p_knows, w_p_seals, w_p_dates, w_p_draws, w_p_next, w_p_steps)) : sx_MV l yX1_keep wsX1_keep ({ frames := 1, cells := 0, slots := 0, locals := 26 }) D (sx_T cI cJ cS) sz [.ref p_h, .ref c_h] [(p_h, .inr (1, [.ref p_knows_a, .ref p_seals_a, .ref p_dates_a, .ref p_draws_a, .int p_next, .int p_steps])), (p_knows_a, .inl (cJ, 48, .inr (.inl p_knows))), (p_seals_a, .inl (cJ, 48, .inr (.inl p_seals))), (p_dates_a, .inl (cI, 8, .inl p_dates)), (p_draws_a, .inl (cI, 8, .inl p_draws)), (c_h, .inr (0, [.ref c_kinds_a, .ref c_seating_a, .ref c_knows_a, .ref c_seals_a, .ref c_telling_a, .int c_persons, .int c_wax, .int c_week, .int c_day, .int c_draw])), (c_knows_a, .inl (cJ, 6, .inr (.inl c_knows))), (c_seals_a, .inl (cJ, 6, .inr (.inl c_seals)))] [(p_h, .inr (1, [.ref p_knows_a, .ref p_seals_a, .ref p_dates_a, .ref p_draws_a, .int w_p_next, .int w_p_steps])), (p_knows_a, .inl (cJ, 48, .inr (.inl w_p_knows))), (p_seals_a, .inl (cJ, 48, .inr (.inl w_p_seals))), (p_dates_a, .inl (cI, 8, .inl w_p_dates)), (p_draws_a, .inl (cI, 8, .inl w_p_draws)), (c_h, .inr (0, [.ref c_kinds_a, .ref c_seating_a, .ref c_knows_a, .ref c_seals_a, .ref c_telling_a, .int c_persons, .int c_wax, .int c_week, .int c_day, .int c_draw])), (c_knows_a, .inl (cJ, 6, .inr (.inl c_knows))), (c_seals_a, .inl (cJ, 6, .inr (.inl c_seals)))] := by
  refine Met.ofW (cc := cX1_keep) (maxL := 2) (ret := none) (by decide) rfl ?_
  intro p e s m args below meth c s₁ B hml hv
  obtain ⟨rfl, hsz, hN, hP, hK, hD0⟩ := hv
  subst hsz
  have hl := lv_entry ([.ref p_h, .ref c_h]) (n := 2) (Nat.le_of_ble_eq_true rfl)
  rw [lg_entry_eq]
  generalize (lg_sl ([.ref p_h, .ref c_h]) ++ List.replicate (2 - (lg_sl ([.ref p_h, .ref c_h])).length) Slot.unset).toArray = ls at hl ⊢
  exact kwX1_keep B.exec B.bytes hml (findClass_of_methodNamed B.named) (atoms_spec (ws := wsX1_keep) B.pre) hN hK (fun q h => Or.inr h) (by decide) (by decide) ⟨Nat.zero_le _, Nat.zero_le _⟩ p_h p_knows_a p_seals_a p_dates_a p_draws_a c_h c_kinds_a c_seating_a c_knows_a c_seals_a c_telling_a p_knows p_seals p_dates p_draws p_next p_steps c_knows c_seals c_persons c_wax c_week c_day c_draw F w_p_knows w_p_seals w_p_dates w_p_draws w_p_next w_p_steps hM _ _ _ hl hP hD0.self va_S.rf (fun H1 locs1 ls1 pc1 hd hP hD hS => W.vret B.exec B.bytes B.returns (fun t ht hW => ⟨⟨(), rfl, trivial, by rw [ht]; exact hP, hD⟩, hS.F ht⟩) hS.2.2 hd)

def fnX1_takeBack (F : Nat) (p_knows : Nat → Int64) (p_seals : Nat → Int64) (p_dates : Nat → Int32) (p_draws : Nat → Int32) (p_next : Int32) (p_steps : Int32) (c_knows : Nat → Int64) (c_seals : Nat → Int64) (c_day : Int32) (c_draw : Int32) : Option (Int32 × Int32 × (Nat → Int64) × (Nat → Int64) × Int32 × Int32) :=
  sx_gd (sx_cp ((((p_next + (8 : Int32)) - (1 : Int32)) - ((p_next + (8 : Int32)) - (1 : Int32)) / (8 : Int32) * (8 : Int32)) * (6 : Int32)) (0 : Int32) (6 : Int32) 48 6) (sx_gd (sx_cp ((((p_next + (8 : Int32)) - (1 : Int32)) - ((p_next + (8 : Int32)) - (1 : Int32)) / (8 : Int32) * (8 : Int32)) * (6 : Int32)) (0 : Int32) (6 : Int32) 48 6) (sx_gd (sx_ib (((p_next + (8 : Int32)) - (1 : Int32)) - ((p_next + (8 : Int32)) - (1 : Int32)) / (8 : Int32) * (8 : Int32)) 8) (sx_gd (sx_ib (((p_next + (8 : Int32)) - (1 : Int32)) - ((p_next + (8 : Int32)) - (1 : Int32)) / (8 : Int32) * (8 : Int32)) 8) ((some ((((p_next + (8 : Int32)) - (1 : Int32)) - ((p_next + (8 : Int32)) - (1 : Int32)) / (8 : Int32) * (8 : Int32)), (p_steps - (1 : Int32)), (va_cpy p_knows c_knows (((((p_next + (8 : Int32)) - (1 : Int32)) - ((p_next + (8 : Int32)) - (1 : Int32)) / (8 : Int32) * (8 : Int32)) * (6 : Int32))).toNatClampNeg ((0 : Int32)).toNatClampNeg ((6 : Int32)).toNatClampNeg), (va_cpy p_seals c_seals (((((p_next + (8 : Int32)) - (1 : Int32)) - ((p_next + (8 : Int32)) - (1 : Int32)) / (8 : Int32) * (8 : Int32)) * (6 : Int32))).toNatClampNeg ((0 : Int32)).toNatClampNeg ((6 : Int32)).toNatClampNeg), (p_dates ((((p_next + (8 : Int32)) - (1 : Int32)) - ((p_next + (8 : Int32)) - (1 : Int32)) / (8 : Int32) * (8 : Int32))).toNatClampNeg), (p_draws ((((p_next + (8 : Int32)) - (1 : Int32)) - ((p_next + (8 : Int32)) - (1 : Int32)) / (8 : Int32) * (8 : Int32))).toNatClampNeg)))))))
set_option maxHeartbeats 4000000 in
set_option maxRecDepth 100000 in
theorem kwX1_takeBack {p : Program} {l : Launch} {e : Env} {R : Room} {s : State} {m : MethodId} {args : Array Value} {below : List Frame} {meth : Method} {c : Code} {cells slots : Nat} {Q : State → Prop} {A : Nat → Prop} {H0 : Heap} {D : va_G} {cI cJ cS : ClassId} (hx : p.tables.exec = Jvm.exec) (hb : c.code = cX1_takeBack) (hml : c.maxLocals = 2) (hown : s.vm.findClass RX1 = some m.cls) (hts : ∀ w ∈ wsX1_takeBack, w.before args s = true) (hN : sx_N s) (hK : va_K D vwCl (sx_T cI cJ cS) s) (hA : ∀ q, H0.size ≤ q → A q) (hRf : 1 ≤ R.frames) (hRl : 26 ≤ R.locals) (hRc : cells ≤ R.cells ∧ slots ≤ R.slots) (p_h p_knows_a p_seals_a p_dates_a p_draws_a c_h c_kinds_a c_seating_a c_knows_a c_seals_a c_telling_a : Nat) (p_knows : Nat → Int64) (p_seals : Nat → Int64) (p_dates : Nat → Int32) (p_draws : Nat → Int32) (p_next : Int32) (p_steps : Int32) (c_knows : Nat → Int64) (c_seals : Nat → Int64) (c_persons : Int32) (c_wax : Int32) (c_week : Int32) (c_day : Int32) (c_draw : Int32) (F : Nat) (w_p_next : Int32) (w_p_steps : Int32) (w_c_knows : Nat → Int64) (w_c_seals : Nat → Int64) (w_c_day : Int32) (w_c_draw : Int32) (hM : fnX1_takeBack F p_knows p_seals p_dates p_draws p_next p_steps c_knows c_seals c_day c_draw = some (w_p_next, w_p_steps, w_c_knows, w_c_seals, w_c_day, w_c_draw)) (H : Heap) (locs : List Loc) (ls : Array Slot) (hl : lv_has ls 2 [(0, .ref p_h), (1, .ref c_h)]) (hP : va_P D vwCl [(p_h, .inr (1, [.ref p_knows_a, .ref p_seals_a, .ref p_dates_a, .ref p_draws_a, .int p_next, .int p_steps])), (p_knows_a, .inl (cJ, 48, .inr (.inl p_knows))), (p_seals_a, .inl (cJ, 48, .inr (.inl p_seals))), (p_dates_a, .inl (cI, 8, .inl p_dates)), (p_draws_a, .inl (cI, 8, .inl p_draws)), (c_h, .inr (0, [.ref c_kinds_a, .ref c_seating_a, .ref c_knows_a, .ref c_seals_a, .ref c_telling_a, .int c_persons, .int c_wax, .int c_week, .int c_day, .int c_draw])), (c_knows_a, .inl (cJ, 6, .inr (.inl c_knows))), (c_seals_a, .inl (cJ, 6, .inr (.inl c_seals)))] H) (hD : va_D A [(p_h, .inr (1, [.ref p_knows_a, .ref p_seals_a, .ref p_dates_a, .ref p_draws_a, .int p_next, .int p_steps])), (p_knows_a, .inl (cJ, 48, .inr (.inl p_knows))), (p_seals_a, .inl (cJ, 48, .inr (.inl p_seals))), (p_dates_a, .inl (cI, 8, .inl p_dates)), (p_draws_a, .inl (cI, 8, .inl p_draws)), (c_h, .inr (0, [.ref c_kinds_a, .ref c_seating_a, .ref c_knows_a, .ref c_seals_a, .ref c_telling_a, .int c_persons, .int c_wax, .int c_week, .int c_day, .int c_draw])), (c_knows_a, .inl (cJ, 6, .inr (.inl c_knows))), (c_seals_a, .inl (cJ, 6, .inr (.inl c_seals)))]) (hS : va_S A H0 H locs)
    (hret : ∀ (H1 : Heap) (locs1 : List Loc) (ls1 : Array Slot) (pc1 : Nat), decode cX1_takeBack pc1 = .ok (.return_, 1) → va_P D vwCl [(p_h, .inr (1, [.ref p_knows_a, .ref p_seals_a, .ref p_dates_a, .ref p_draws_a, .int w_p_next, .int w_p_steps])), (p_knows_a, .inl (cJ, 48, .inr (.inl p_knows))), (p_seals_a, .inl (cJ, 48, .inr (.inl p_seals))), (p_dates_a, .inl (cI, 8, .inl p_dates)), (p_draws_a, .inl (cI, 8, .inl p_draws)), (c_h, .inr (0, [.ref c_kinds_a, .ref c_seating_a, .ref c_knows_a, .ref c_seals_a, .ref c_telling_a, .int c_persons, .int c_wax, .int c_week, .int w_c_day, .int w_c_draw])), (c_knows_a, .inl (cJ, 6, .inr (.inl w_c_knows))), (c_seals_a, .inl (cJ, 6, .inr (.inl w_c_seals)))] H1 → va_D A [(p_h, .inr (1, [.ref p_knows_a, .ref p_seals_a, .ref p_dates_a, .ref p_draws_a, .int w_p_next, .int w_p_steps])), (p_knows_a, .inl (cJ, 48, .inr (.inl p_knows))), (p_seals_a, .inl (cJ, 48, .inr (.inl p_seals))), (p_dates_a, .inl (cI, 8, .inl p_dates)), (p_draws_a, .inl (cI, 8, .inl p_draws)), (c_h, .inr (0, [.ref c_kinds_a, .ref c_seating_a, .ref c_knows_a, .ref c_seals_a, .ref c_telling_a, .int c_persons, .int c_wax, .int c_week, .int w_c_day, .int w_c_draw])), (c_knows_a, .inl (cJ, 6, .inr (.inl w_c_knows))), (c_seals_a, .inl (cJ, 6, .inr (.inl w_c_seals)))] → va_S A H0 H1 locs1 → W p l e R s m args below meth c H1 locs1 cells slots Q (F0 m pc1 ls1 [])) : W p l e R s m args below meth c H locs cells slots Q (F0 m 0 ls []) := by
  have hf_9 := hts (.fieldLink RX1 9 "SealedLips$Past" "knows" "[J") (by decide +kernel)
  have hf_15 := hts (.fieldLink RX1 15 "SealedLips$Past" "seals" "[J") (by decide +kernel)
  have hf_18 := hts (.fieldLink RX1 18 "SealedLips$Past" "dates" "[I") (by decide +kernel)
  have hf_22 := hts (.fieldLink RX1 22 "SealedLips$Past" "draws" "[I") (by decide +kernel)
  have hf_31 := hts (.fieldLink RX1 31 "SealedLips$Past" "next" "I") (by decide +kernel)
  have hf_35 := hts (.fieldLink RX1 35 "SealedLips$Past" "steps" "I") (by decide +kernel)
  have hf_38 := sx_N.f (args := args) hN (show Cond.fieldLinkNest "SealedLips$Past" 38 "SealedLips$Court" "knows" "[J" "SealedLips" ∈ sx_nw by decide +kernel)
  have hf_41 := sx_N.f (args := args) hN (show Cond.fieldLinkNest "SealedLips$Past" 41 "SealedLips$Court" "seals" "[J" "SealedLips" ∈ sx_nw by decide +kernel)
  have hf_42 := sx_N.f (args := args) hN (show Cond.fieldLinkNest "SealedLips$Past" 42 "SealedLips$Court" "day" "I" "SealedLips" ∈ sx_nw by decide +kernel)
  have hf_45 := sx_N.f (args := args) hN (show Cond.fieldLinkNest "SealedLips$Past" 45 "SealedLips$Court" "draw" "I" "SealedLips" ∈ sx_nw by decide +kernel)
  have hin_X0 : ∀ w ∈ wsX00, w ∈ wsX1_takeBack := by decide +kernel
  have hin_X1 : ∀ w ∈ wsX10, w ∈ wsX1_takeBack := by decide +kernel
  unfold fnX1_takeBack at hM
  refine lv_aload_n hx hb dX1_takeBack_0 rfl (lv_at hl 0 rfl) ?_
  refine lv_aload_n hx hb dX1_takeBack_1 rfl (lv_at hl 0 rfl) ?_
  refine va_get (D := D) (ci := 1) (v := .int p_next) (C := RX1) (T := TX1) (N := 6) hx hb hts hin_X1 hown hK hP 0 rfl rfl 4 (by decide) hf_31 (fun _ h9 => h9) rfl dX1_takeBack_2 ?_
  refine lv_bipush (v := 8) hx hb dX1_takeBack_5 (by decide) ?_
  refine lv_iadd hx hb dX1_takeBack_7 ?_
  refine lv_iconst (v := 1) hx hb dX1_takeBack_8 (by decide) ?_
  refine lv_isub hx hb dX1_takeBack_9 ?_
  refine lv_bipush (v := 8) hx hb dX1_takeBack_10 (by decide) ?_
  refine lv_irem hx hb dX1_takeBack_12 (by decide) ?_
  refine va_put (D := D) (ci := 1) (v := .int (((p_next + (8 : Int32)) - (1 : Int32)) - ((p_next + (8 : Int32)) - (1 : Int32)) / (8 : Int32) * (8 : Int32))) (ty := .int) (C := RX1) (T := TX1) (N := 6) hx hb hts hin_X1 tyX1 tyX1_ok nmX1 hown hK hP hD hS 0 rfl rfl 4 (by decide) hf_31 (fun _ h9 => h9) rfl (tyX1_ok 4 (by decide)) rfl rfl (Nat.le_of_ble_eq_true rfl) dX1_takeBack_13 (fun H locs hP hD hS => ?_)
  have hP : va_P D vwCl [(p_h, .inr (1, [.ref p_knows_a, .ref p_seals_a, .ref p_dates_a, .ref p_draws_a, .int (((p_next + (8 : Int32)) - (1 : Int32)) - ((p_next + (8 : Int32)) - (1 : Int32)) / (8 : Int32) * (8 : Int32)), .int p_steps])), (p_knows_a, .inl (cJ, 48, .inr (.inl p_knows))), (p_seals_a, .inl (cJ, 48, .inr (.inl p_seals))), (p_dates_a, .inl (cI, 8, .inl p_dates)), (p_draws_a, .inl (cI, 8, .inl p_draws)), (c_h, .inr (0, [.ref c_kinds_a, .ref c_seating_a, .ref c_knows_a, .ref c_seals_a, .ref c_telling_a, .int c_persons, .int c_wax, .int c_week, .int c_day, .int c_draw])), (c_knows_a, .inl (cJ, 6, .inr (.inl c_knows))), (c_seals_a, .inl (cJ, 6, .inr (.inl c_seals)))] H := hP
  have hD : va_D A [(p_h, .inr (1, [.ref p_knows_a, .ref p_seals_a, .ref p_dates_a, .ref p_draws_a, .int (((p_next + (8 : Int32)) - (1 : Int32)) - ((p_next + (8 : Int32)) - (1 : Int32)) / (8 : Int32) * (8 : Int32)), .int p_steps])), (p_knows_a, .inl (cJ, 48, .inr (.inl p_knows))), (p_seals_a, .inl (cJ, 48, .inr (.inl p_seals))), (p_dates_a, .inl (cI, 8, .inl p_dates)), (p_draws_a, .inl (cI, 8, .inl p_draws)), (c_h, .inr (0, [.ref c_kinds_a, .ref c_seating_a, .ref c_knows_a, .ref c_seals_a, .ref c_telling_a, .int c_persons, .int c_wax, .int c_week, .int c_day, .int c_draw])), (c_knows_a, .inl (cJ, 6, .inr (.inl c_knows))), (c_seals_a, .inl (cJ, 6, .inr (.inl c_seals)))] := hD
  refine lv_aload_n hx hb dX1_takeBack_16 rfl (lv_at hl 0 rfl) ?_
  refine lv_dup hx hb dX1_takeBack_17 rfl ?_
  refine va_get (D := D) (ci := 1) (v := .int p_steps) (C := RX1) (T := TX1) (N := 6) hx hb hts hin_X1 hown hK hP 0 rfl rfl 5 (by decide) hf_35 (fun _ h9 => h9) rfl dX1_takeBack_18 ?_
  refine lv_iconst (v := 1) hx hb dX1_takeBack_21 (by decide) ?_
  refine lv_isub hx hb dX1_takeBack_22 ?_
  refine va_put (D := D) (ci := 1) (v := .int (p_steps - (1 : Int32))) (ty := .int) (C := RX1) (T := TX1) (N := 6) hx hb hts hin_X1 tyX1 tyX1_ok nmX1 hown hK hP hD hS 0 rfl rfl 5 (by decide) hf_35 (fun _ h9 => h9) rfl (tyX1_ok 5 (by decide)) rfl rfl (Nat.le_of_ble_eq_true rfl) dX1_takeBack_23 (fun H locs hP hD hS => ?_)
  have hP : va_P D vwCl [(p_h, .inr (1, [.ref p_knows_a, .ref p_seals_a, .ref p_dates_a, .ref p_draws_a, .int (((p_next + (8 : Int32)) - (1 : Int32)) - ((p_next + (8 : Int32)) - (1 : Int32)) / (8 : Int32) * (8 : Int32)), .int (p_steps - (1 : Int32))])), (p_knows_a, .inl (cJ, 48, .inr (.inl p_knows))), (p_seals_a, .inl (cJ, 48, .inr (.inl p_seals))), (p_dates_a, .inl (cI, 8, .inl p_dates)), (p_draws_a, .inl (cI, 8, .inl p_draws)), (c_h, .inr (0, [.ref c_kinds_a, .ref c_seating_a, .ref c_knows_a, .ref c_seals_a, .ref c_telling_a, .int c_persons, .int c_wax, .int c_week, .int c_day, .int c_draw])), (c_knows_a, .inl (cJ, 6, .inr (.inl c_knows))), (c_seals_a, .inl (cJ, 6, .inr (.inl c_seals)))] H := hP
  have hD : va_D A [(p_h, .inr (1, [.ref p_knows_a, .ref p_seals_a, .ref p_dates_a, .ref p_draws_a, .int (((p_next + (8 : Int32)) - (1 : Int32)) - ((p_next + (8 : Int32)) - (1 : Int32)) / (8 : Int32) * (8 : Int32)), .int (p_steps - (1 : Int32))])), (p_knows_a, .inl (cJ, 48, .inr (.inl p_knows))), (p_seals_a, .inl (cJ, 48, .inr (.inl p_seals))), (p_dates_a, .inl (cI, 8, .inl p_dates)), (p_draws_a, .inl (cI, 8, .inl p_draws)), (c_h, .inr (0, [.ref c_kinds_a, .ref c_seating_a, .ref c_knows_a, .ref c_seals_a, .ref c_telling_a, .int c_persons, .int c_wax, .int c_week, .int c_day, .int c_draw])), (c_knows_a, .inl (cJ, 6, .inr (.inl c_knows))), (c_seals_a, .inl (cJ, 6, .inr (.inl c_seals)))] := hD
  refine lv_aload_n hx hb dX1_takeBack_26 rfl (lv_at hl 0 rfl) ?_
  refine va_get (D := D) (ci := 1) (v := .ref p_knows_a) (C := RX1) (T := TX1) (N := 6) hx hb hts hin_X1 hown hK hP 0 rfl rfl 0 (by decide) hf_9 (fun _ h9 => h9) rfl dX1_takeBack_27 ?_
  refine lv_aload_n hx hb dX1_takeBack_30 rfl (lv_at hl 0 rfl) ?_
  refine va_get (D := D) (ci := 1) (v := .int (((p_next + (8 : Int32)) - (1 : Int32)) - ((p_next + (8 : Int32)) - (1 : Int32)) / (8 : Int32) * (8 : Int32))) (C := RX1) (T := TX1) (N := 6) hx hb hts hin_X1 hown hK hP 0 rfl rfl 4 (by decide) hf_31 (fun _ h9 => h9) rfl dX1_takeBack_31 ?_
  refine lv_bipush (v := 6) hx hb dX1_takeBack_34 (by decide) ?_
  refine lv_imul hx hb dX1_takeBack_36 ?_
  refine lv_aload_n hx hb dX1_takeBack_37 rfl (lv_at hl 1 rfl) ?_
  refine va_getN (D := D) (ci := 0) (v := .ref c_knows_a) (C := RX0) (T := TX0) (N := 10) hx hb hts hin_X0 hown hK hP 5 rfl rfl 2 (by decide) hf_38 (fun _ h9 => h9) rfl dX1_takeBack_38 ?_
  refine lv_iconst (v := 0) hx hb dX1_takeBack_41 (by decide) ?_
  refine lv_bipush (v := 6) hx hb dX1_takeBack_42 (by decide) ?_
  obtain ⟨g1, hM⟩ := sx_gd_s hM
  replace g1 := sx_cp_s g1
  refine va_copyl hx hb (hml.trans hl.1.symm) hown (hts (.methodLink RX1 25 arraycopyName) (by decide +kernel)) (hts (.native arraycopyName) (by decide +kernel)) (hts (.static arraycopyName) (by decide +kernel)) (hts (.initialized "java/lang/System") (by decide +kernel)) hK hP hD hS 1 6 1 1 rfl rfl rfl rfl rfl g1.1 g1.2.1 g1.2.2.1 g1.2.2.2.1 g1.2.2.2.2 (fun _ _ => rfl) (Nat.le_trans (by decide) hRf) (Nat.le_trans (Nat.le_of_ble_eq_true rfl) hRl) dX1_takeBack_44 (fun H locs hP hD hS => ?_)
  have hP : va_P D vwCl [(p_h, .inr (1, [.ref p_knows_a, .ref p_seals_a, .ref p_dates_a, .ref p_draws_a, .int (((p_next + (8 : Int32)) - (1 : Int32)) - ((p_next + (8 : Int32)) - (1 : Int32)) / (8 : Int32) * (8 : Int32)), .int (p_steps - (1 : Int32))])), (p_knows_a, .inl (cJ, 48, .inr (.inl p_knows))), (p_seals_a, .inl (cJ, 48, .inr (.inl p_seals))), (p_dates_a, .inl (cI, 8, .inl p_dates)), (p_draws_a, .inl (cI, 8, .inl p_draws)), (c_h, .inr (0, [.ref c_kinds_a, .ref c_seating_a, .ref c_knows_a, .ref c_seals_a, .ref c_telling_a, .int c_persons, .int c_wax, .int c_week, .int c_day, .int c_draw])), (c_knows_a, .inl (cJ, 6, .inr (.inl (va_cpy p_knows c_knows (((((p_next + (8 : Int32)) - (1 : Int32)) - ((p_next + (8 : Int32)) - (1 : Int32)) / (8 : Int32) * (8 : Int32)) * (6 : Int32))).toNatClampNeg ((0 : Int32)).toNatClampNeg ((6 : Int32)).toNatClampNeg)))), (c_seals_a, .inl (cJ, 6, .inr (.inl c_seals)))] H := hP
  have hD : va_D A [(p_h, .inr (1, [.ref p_knows_a, .ref p_seals_a, .ref p_dates_a, .ref p_draws_a, .int (((p_next + (8 : Int32)) - (1 : Int32)) - ((p_next + (8 : Int32)) - (1 : Int32)) / (8 : Int32) * (8 : Int32)), .int (p_steps - (1 : Int32))])), (p_knows_a, .inl (cJ, 48, .inr (.inl p_knows))), (p_seals_a, .inl (cJ, 48, .inr (.inl p_seals))), (p_dates_a, .inl (cI, 8, .inl p_dates)), (p_draws_a, .inl (cI, 8, .inl p_draws)), (c_h, .inr (0, [.ref c_kinds_a, .ref c_seating_a, .ref c_knows_a, .ref c_seals_a, .ref c_telling_a, .int c_persons, .int c_wax, .int c_week, .int c_day, .int c_draw])), (c_knows_a, .inl (cJ, 6, .inr (.inl (va_cpy p_knows c_knows (((((p_next + (8 : Int32)) - (1 : Int32)) - ((p_next + (8 : Int32)) - (1 : Int32)) / (8 : Int32) * (8 : Int32)) * (6 : Int32))).toNatClampNeg ((0 : Int32)).toNatClampNeg ((6 : Int32)).toNatClampNeg)))), (c_seals_a, .inl (cJ, 6, .inr (.inl c_seals)))] := hD
  refine lv_aload_n hx hb dX1_takeBack_47 rfl (lv_at hl 0 rfl) ?_
  refine va_get (D := D) (ci := 1) (v := .ref p_seals_a) (C := RX1) (T := TX1) (N := 6) hx hb hts hin_X1 hown hK hP 0 rfl rfl 1 (by decide) hf_15 (fun _ h9 => h9) rfl dX1_takeBack_48 ?_
  refine lv_aload_n hx hb dX1_takeBack_51 rfl (lv_at hl 0 rfl) ?_
  refine va_get (D := D) (ci := 1) (v := .int (((p_next + (8 : Int32)) - (1 : Int32)) - ((p_next + (8 : Int32)) - (1 : Int32)) / (8 : Int32) * (8 : Int32))) (C := RX1) (T := TX1) (N := 6) hx hb hts hin_X1 hown hK hP 0 rfl rfl 4 (by decide) hf_31 (fun _ h9 => h9) rfl dX1_takeBack_52 ?_
  refine lv_bipush (v := 6) hx hb dX1_takeBack_55 (by decide) ?_
  refine lv_imul hx hb dX1_takeBack_57 ?_
  refine lv_aload_n hx hb dX1_takeBack_58 rfl (lv_at hl 1 rfl) ?_
  refine va_getN (D := D) (ci := 0) (v := .ref c_seals_a) (C := RX0) (T := TX0) (N := 10) hx hb hts hin_X0 hown hK hP 5 rfl rfl 3 (by decide) hf_41 (fun _ h9 => h9) rfl dX1_takeBack_59 ?_
  refine lv_iconst (v := 0) hx hb dX1_takeBack_62 (by decide) ?_
  refine lv_bipush (v := 6) hx hb dX1_takeBack_63 (by decide) ?_
  obtain ⟨g2, hM⟩ := sx_gd_s hM
  replace g2 := sx_cp_s g2
  refine va_copyl hx hb (hml.trans hl.1.symm) hown (hts (.methodLink RX1 25 arraycopyName) (by decide +kernel)) (hts (.native arraycopyName) (by decide +kernel)) (hts (.static arraycopyName) (by decide +kernel)) (hts (.initialized "java/lang/System") (by decide +kernel)) hK hP hD hS 2 7 1 1 rfl rfl rfl rfl rfl g2.1 g2.2.1 g2.2.2.1 g2.2.2.2.1 g2.2.2.2.2 (fun _ _ => rfl) (Nat.le_trans (by decide) hRf) (Nat.le_trans (Nat.le_of_ble_eq_true rfl) hRl) dX1_takeBack_65 (fun H locs hP hD hS => ?_)
  have hP : va_P D vwCl [(p_h, .inr (1, [.ref p_knows_a, .ref p_seals_a, .ref p_dates_a, .ref p_draws_a, .int (((p_next + (8 : Int32)) - (1 : Int32)) - ((p_next + (8 : Int32)) - (1 : Int32)) / (8 : Int32) * (8 : Int32)), .int (p_steps - (1 : Int32))])), (p_knows_a, .inl (cJ, 48, .inr (.inl p_knows))), (p_seals_a, .inl (cJ, 48, .inr (.inl p_seals))), (p_dates_a, .inl (cI, 8, .inl p_dates)), (p_draws_a, .inl (cI, 8, .inl p_draws)), (c_h, .inr (0, [.ref c_kinds_a, .ref c_seating_a, .ref c_knows_a, .ref c_seals_a, .ref c_telling_a, .int c_persons, .int c_wax, .int c_week, .int c_day, .int c_draw])), (c_knows_a, .inl (cJ, 6, .inr (.inl (va_cpy p_knows c_knows (((((p_next + (8 : Int32)) - (1 : Int32)) - ((p_next + (8 : Int32)) - (1 : Int32)) / (8 : Int32) * (8 : Int32)) * (6 : Int32))).toNatClampNeg ((0 : Int32)).toNatClampNeg ((6 : Int32)).toNatClampNeg)))), (c_seals_a, .inl (cJ, 6, .inr (.inl (va_cpy p_seals c_seals (((((p_next + (8 : Int32)) - (1 : Int32)) - ((p_next + (8 : Int32)) - (1 : Int32)) / (8 : Int32) * (8 : Int32)) * (6 : Int32))).toNatClampNeg ((0 : Int32)).toNatClampNeg ((6 : Int32)).toNatClampNeg))))] H := hP
  have hD : va_D A [(p_h, .inr (1, [.ref p_knows_a, .ref p_seals_a, .ref p_dates_a, .ref p_draws_a, .int (((p_next + (8 : Int32)) - (1 : Int32)) - ((p_next + (8 : Int32)) - (1 : Int32)) / (8 : Int32) * (8 : Int32)), .int (p_steps - (1 : Int32))])), (p_knows_a, .inl (cJ, 48, .inr (.inl p_knows))), (p_seals_a, .inl (cJ, 48, .inr (.inl p_seals))), (p_dates_a, .inl (cI, 8, .inl p_dates)), (p_draws_a, .inl (cI, 8, .inl p_draws)), (c_h, .inr (0, [.ref c_kinds_a, .ref c_seating_a, .ref c_knows_a, .ref c_seals_a, .ref c_telling_a, .int c_persons, .int c_wax, .int c_week, .int c_day, .int c_draw])), (c_knows_a, .inl (cJ, 6, .inr (.inl (va_cpy p_knows c_knows (((((p_next + (8 : Int32)) - (1 : Int32)) - ((p_next + (8 : Int32)) - (1 : Int32)) / (8 : Int32) * (8 : Int32)) * (6 : Int32))).toNatClampNeg ((0 : Int32)).toNatClampNeg ((6 : Int32)).toNatClampNeg)))), (c_seals_a, .inl (cJ, 6, .inr (.inl (va_cpy p_seals c_seals (((((p_next + (8 : Int32)) - (1 : Int32)) - ((p_next + (8 : Int32)) - (1 : Int32)) / (8 : Int32) * (8 : Int32)) * (6 : Int32))).toNatClampNeg ((0 : Int32)).toNatClampNeg ((6 : Int32)).toNatClampNeg))))] := hD
  refine lv_aload_n hx hb dX1_takeBack_68 rfl (lv_at hl 1 rfl) ?_
  refine lv_aload_n hx hb dX1_takeBack_69 rfl (lv_at hl 0 rfl) ?_
  refine va_get (D := D) (ci := 1) (v := .ref p_dates_a) (C := RX1) (T := TX1) (N := 6) hx hb hts hin_X1 hown hK hP 0 rfl rfl 2 (by decide) hf_18 (fun _ h9 => h9) rfl dX1_takeBack_70 ?_
  refine lv_aload_n hx hb dX1_takeBack_73 rfl (lv_at hl 0 rfl) ?_
  refine va_get (D := D) (ci := 1) (v := .int (((p_next + (8 : Int32)) - (1 : Int32)) - ((p_next + (8 : Int32)) - (1 : Int32)) / (8 : Int32) * (8 : Int32))) (C := RX1) (T := TX1) (N := 6) hx hb hts hin_X1 hown hK hP 0 rfl rfl 4 (by decide) hf_31 (fun _ h9 => h9) rfl dX1_takeBack_74 ?_
  obtain ⟨g3, hM⟩ := sx_gd_s hM
  refine va_iald hx hb hK hP 3 0 rfl rfl (sx_ib_s g3) dX1_takeBack_77 ?_
  refine va_putN (D := D) (ci := 0) (v := .int (p_dates ((((p_next + (8 : Int32)) - (1 : Int32)) - ((p_next + (8 : Int32)) - (1 : Int32)) / (8 : Int32) * (8 : Int32))).toNatClampNeg)) (ty := .int) (C := RX0) (T := TX0) (N := 10) hx hb hts hin_X0 tyX0 tyX0_ok nmX0 hown hK hP hD hS 5 rfl rfl 8 (by decide) hf_42 (fun _ h9 => h9) rfl (tyX0_ok 8 (by decide)) rfl rfl (Nat.le_of_ble_eq_true rfl) dX1_takeBack_78 (fun H locs hP hD hS => ?_)
  have hP : va_P D vwCl [(p_h, .inr (1, [.ref p_knows_a, .ref p_seals_a, .ref p_dates_a, .ref p_draws_a, .int (((p_next + (8 : Int32)) - (1 : Int32)) - ((p_next + (8 : Int32)) - (1 : Int32)) / (8 : Int32) * (8 : Int32)), .int (p_steps - (1 : Int32))])), (p_knows_a, .inl (cJ, 48, .inr (.inl p_knows))), (p_seals_a, .inl (cJ, 48, .inr (.inl p_seals))), (p_dates_a, .inl (cI, 8, .inl p_dates)), (p_draws_a, .inl (cI, 8, .inl p_draws)), (c_h, .inr (0, [.ref c_kinds_a, .ref c_seating_a, .ref c_knows_a, .ref c_seals_a, .ref c_telling_a, .int c_persons, .int c_wax, .int c_week, .int (p_dates ((((p_next + (8 : Int32)) - (1 : Int32)) - ((p_next + (8 : Int32)) - (1 : Int32)) / (8 : Int32) * (8 : Int32))).toNatClampNeg), .int c_draw])), (c_knows_a, .inl (cJ, 6, .inr (.inl (va_cpy p_knows c_knows (((((p_next + (8 : Int32)) - (1 : Int32)) - ((p_next + (8 : Int32)) - (1 : Int32)) / (8 : Int32) * (8 : Int32)) * (6 : Int32))).toNatClampNeg ((0 : Int32)).toNatClampNeg ((6 : Int32)).toNatClampNeg)))), (c_seals_a, .inl (cJ, 6, .inr (.inl (va_cpy p_seals c_seals (((((p_next + (8 : Int32)) - (1 : Int32)) - ((p_next + (8 : Int32)) - (1 : Int32)) / (8 : Int32) * (8 : Int32)) * (6 : Int32))).toNatClampNeg ((0 : Int32)).toNatClampNeg ((6 : Int32)).toNatClampNeg))))] H := hP
  have hD : va_D A [(p_h, .inr (1, [.ref p_knows_a, .ref p_seals_a, .ref p_dates_a, .ref p_draws_a, .int (((p_next + (8 : Int32)) - (1 : Int32)) - ((p_next + (8 : Int32)) - (1 : Int32)) / (8 : Int32) * (8 : Int32)), .int (p_steps - (1 : Int32))])), (p_knows_a, .inl (cJ, 48, .inr (.inl p_knows))), (p_seals_a, .inl (cJ, 48, .inr (.inl p_seals))), (p_dates_a, .inl (cI, 8, .inl p_dates)), (p_draws_a, .inl (cI, 8, .inl p_draws)), (c_h, .inr (0, [.ref c_kinds_a, .ref c_seating_a, .ref c_knows_a, .ref c_seals_a, .ref c_telling_a, .int c_persons, .int c_wax, .int c_week, .int (p_dates ((((p_next + (8 : Int32)) - (1 : Int32)) - ((p_next + (8 : Int32)) - (1 : Int32)) / (8 : Int32) * (8 : Int32))).toNatClampNeg), .int c_draw])), (c_knows_a, .inl (cJ, 6, .inr (.inl (va_cpy p_knows c_knows (((((p_next + (8 : Int32)) - (1 : Int32)) - ((p_next + (8 : Int32)) - (1 : Int32)) / (8 : Int32) * (8 : Int32)) * (6 : Int32))).toNatClampNeg ((0 : Int32)).toNatClampNeg ((6 : Int32)).toNatClampNeg)))), (c_seals_a, .inl (cJ, 6, .inr (.inl (va_cpy p_seals c_seals (((((p_next + (8 : Int32)) - (1 : Int32)) - ((p_next + (8 : Int32)) - (1 : Int32)) / (8 : Int32) * (8 : Int32)) * (6 : Int32))).toNatClampNeg ((0 : Int32)).toNatClampNeg ((6 : Int32)).toNatClampNeg))))] := hD
  refine lv_aload_n hx hb dX1_takeBack_81 rfl (lv_at hl 1 rfl) ?_
  refine lv_aload_n hx hb dX1_takeBack_82 rfl (lv_at hl 0 rfl) ?_
  refine va_get (D := D) (ci := 1) (v := .ref p_draws_a) (C := RX1) (T := TX1) (N := 6) hx hb hts hin_X1 hown hK hP 0 rfl rfl 3 (by decide) hf_22 (fun _ h9 => h9) rfl dX1_takeBack_83 ?_
  refine lv_aload_n hx hb dX1_takeBack_86 rfl (lv_at hl 0 rfl) ?_
  refine va_get (D := D) (ci := 1) (v := .int (((p_next + (8 : Int32)) - (1 : Int32)) - ((p_next + (8 : Int32)) - (1 : Int32)) / (8 : Int32) * (8 : Int32))) (C := RX1) (T := TX1) (N := 6) hx hb hts hin_X1 hown hK hP 0 rfl rfl 4 (by decide) hf_31 (fun _ h9 => h9) rfl dX1_takeBack_87 ?_
  obtain ⟨g4, hM⟩ := sx_gd_s hM
  refine va_iald hx hb hK hP 4 0 rfl rfl (sx_ib_s g4) dX1_takeBack_90 ?_
  refine va_putN (D := D) (ci := 0) (v := .int (p_draws ((((p_next + (8 : Int32)) - (1 : Int32)) - ((p_next + (8 : Int32)) - (1 : Int32)) / (8 : Int32) * (8 : Int32))).toNatClampNeg)) (ty := .int) (C := RX0) (T := TX0) (N := 10) hx hb hts hin_X0 tyX0 tyX0_ok nmX0 hown hK hP hD hS 5 rfl rfl 9 (by decide) hf_45 (fun _ h9 => h9) rfl (tyX0_ok 9 (by decide)) rfl rfl (Nat.le_of_ble_eq_true rfl) dX1_takeBack_91 (fun H locs hP hD hS => ?_)
  have hP : va_P D vwCl [(p_h, .inr (1, [.ref p_knows_a, .ref p_seals_a, .ref p_dates_a, .ref p_draws_a, .int (((p_next + (8 : Int32)) - (1 : Int32)) - ((p_next + (8 : Int32)) - (1 : Int32)) / (8 : Int32) * (8 : Int32)), .int (p_steps - (1 : Int32))])), (p_knows_a, .inl (cJ, 48, .inr (.inl p_knows))), (p_seals_a, .inl (cJ, 48, .inr (.inl p_seals))), (p_dates_a, .inl (cI, 8, .inl p_dates)), (p_draws_a, .inl (cI, 8, .inl p_draws)), (c_h, .inr (0, [.ref c_kinds_a, .ref c_seating_a, .ref c_knows_a, .ref c_seals_a, .ref c_telling_a, .int c_persons, .int c_wax, .int c_week, .int (p_dates ((((p_next + (8 : Int32)) - (1 : Int32)) - ((p_next + (8 : Int32)) - (1 : Int32)) / (8 : Int32) * (8 : Int32))).toNatClampNeg), .int (p_draws ((((p_next + (8 : Int32)) - (1 : Int32)) - ((p_next + (8 : Int32)) - (1 : Int32)) / (8 : Int32) * (8 : Int32))).toNatClampNeg)])), (c_knows_a, .inl (cJ, 6, .inr (.inl (va_cpy p_knows c_knows (((((p_next + (8 : Int32)) - (1 : Int32)) - ((p_next + (8 : Int32)) - (1 : Int32)) / (8 : Int32) * (8 : Int32)) * (6 : Int32))).toNatClampNeg ((0 : Int32)).toNatClampNeg ((6 : Int32)).toNatClampNeg)))), (c_seals_a, .inl (cJ, 6, .inr (.inl (va_cpy p_seals c_seals (((((p_next + (8 : Int32)) - (1 : Int32)) - ((p_next + (8 : Int32)) - (1 : Int32)) / (8 : Int32) * (8 : Int32)) * (6 : Int32))).toNatClampNeg ((0 : Int32)).toNatClampNeg ((6 : Int32)).toNatClampNeg))))] H := hP
  have hD : va_D A [(p_h, .inr (1, [.ref p_knows_a, .ref p_seals_a, .ref p_dates_a, .ref p_draws_a, .int (((p_next + (8 : Int32)) - (1 : Int32)) - ((p_next + (8 : Int32)) - (1 : Int32)) / (8 : Int32) * (8 : Int32)), .int (p_steps - (1 : Int32))])), (p_knows_a, .inl (cJ, 48, .inr (.inl p_knows))), (p_seals_a, .inl (cJ, 48, .inr (.inl p_seals))), (p_dates_a, .inl (cI, 8, .inl p_dates)), (p_draws_a, .inl (cI, 8, .inl p_draws)), (c_h, .inr (0, [.ref c_kinds_a, .ref c_seating_a, .ref c_knows_a, .ref c_seals_a, .ref c_telling_a, .int c_persons, .int c_wax, .int c_week, .int (p_dates ((((p_next + (8 : Int32)) - (1 : Int32)) - ((p_next + (8 : Int32)) - (1 : Int32)) / (8 : Int32) * (8 : Int32))).toNatClampNeg), .int (p_draws ((((p_next + (8 : Int32)) - (1 : Int32)) - ((p_next + (8 : Int32)) - (1 : Int32)) / (8 : Int32) * (8 : Int32))).toNatClampNeg)])), (c_knows_a, .inl (cJ, 6, .inr (.inl (va_cpy p_knows c_knows (((((p_next + (8 : Int32)) - (1 : Int32)) - ((p_next + (8 : Int32)) - (1 : Int32)) / (8 : Int32) * (8 : Int32)) * (6 : Int32))).toNatClampNeg ((0 : Int32)).toNatClampNeg ((6 : Int32)).toNatClampNeg)))), (c_seals_a, .inl (cJ, 6, .inr (.inl (va_cpy p_seals c_seals (((((p_next + (8 : Int32)) - (1 : Int32)) - ((p_next + (8 : Int32)) - (1 : Int32)) / (8 : Int32) * (8 : Int32)) * (6 : Int32))).toNatClampNeg ((0 : Int32)).toNatClampNeg ((6 : Int32)).toNatClampNeg))))] := hD
  obtain ⟨rfl, rfl, rfl, rfl, rfl, rfl⟩ := sx_o6 hM
  exact hret _ _ _ _ dX1_takeBack_94 (hP.sub [0, 1, 2, 3, 4, 5, 6, 7] rfl) (hD.sub [0, 1, 2, 3, 4, 5, 6, 7] (by decide) rfl) hS
set_option maxHeartbeats 4000000 in
set_option maxRecDepth 100000 in
theorem mtX1_takeBack (l : Launch) (D : va_G) (cI cJ cS : ClassId) (sz : Nat) (p_h p_knows_a p_seals_a p_dates_a p_draws_a c_h c_kinds_a c_seating_a c_knows_a c_seals_a c_telling_a : Nat) (p_knows : Nat → Int64) (p_seals : Nat → Int64) (p_dates : Nat → Int32) (p_draws : Nat → Int32) (p_next : Int32) (p_steps : Int32) (c_knows : Nat → Int64) (c_seals : Nat → Int64) (c_persons : Int32) (c_wax : Int32) (c_week : Int32) (c_day : Int32) (c_draw : Int32) (F : Nat) (w_p_next : Int32) (w_p_steps : Int32) (w_c_knows : Nat → Int64) (w_c_seals : Nat → Int64) (w_c_day : Int32) (w_c_draw : Int32) (hM : fnX1_takeBack F p_knows p_seals p_dates p_draws p_next p_steps c_knows c_seals c_day c_draw = some (w_p_next, w_p_steps, w_c_knows, w_c_seals, w_c_day, w_c_draw)) : sx_MV l yX1_takeBack wsX1_takeBack ({ frames := 1, cells := 0, slots := 0, locals := 26 }) D (sx_T cI cJ cS) sz [.ref p_h, .ref c_h] [(p_h, .inr (1, [.ref p_knows_a, .ref p_seals_a, .ref p_dates_a, .ref p_draws_a, .int p_next, .int p_steps])), (p_knows_a, .inl (cJ, 48, .inr (.inl p_knows))), (p_seals_a, .inl (cJ, 48, .inr (.inl p_seals))), (p_dates_a, .inl (cI, 8, .inl p_dates)), (p_draws_a, .inl (cI, 8, .inl p_draws)), (c_h, .inr (0, [.ref c_kinds_a, .ref c_seating_a, .ref c_knows_a, .ref c_seals_a, .ref c_telling_a, .int c_persons, .int c_wax, .int c_week, .int c_day, .int c_draw])), (c_knows_a, .inl (cJ, 6, .inr (.inl c_knows))), (c_seals_a, .inl (cJ, 6, .inr (.inl c_seals)))] [(p_h, .inr (1, [.ref p_knows_a, .ref p_seals_a, .ref p_dates_a, .ref p_draws_a, .int w_p_next, .int w_p_steps])), (p_knows_a, .inl (cJ, 48, .inr (.inl p_knows))), (p_seals_a, .inl (cJ, 48, .inr (.inl p_seals))), (p_dates_a, .inl (cI, 8, .inl p_dates)), (p_draws_a, .inl (cI, 8, .inl p_draws)), (c_h, .inr (0, [.ref c_kinds_a, .ref c_seating_a, .ref c_knows_a, .ref c_seals_a, .ref c_telling_a, .int c_persons, .int c_wax, .int c_week, .int w_c_day, .int w_c_draw])), (c_knows_a, .inl (cJ, 6, .inr (.inl w_c_knows))), (c_seals_a, .inl (cJ, 6, .inr (.inl w_c_seals)))] := by
  refine Met.ofW (cc := cX1_takeBack) (maxL := 2) (ret := none) (by decide) rfl ?_
  intro p e s m args below meth c s₁ B hml hv
  obtain ⟨rfl, hsz, hN, hP, hK, hD0⟩ := hv
  subst hsz
  have hl := lv_entry ([.ref p_h, .ref c_h]) (n := 2) (Nat.le_of_ble_eq_true rfl)
  rw [lg_entry_eq]
  generalize (lg_sl ([.ref p_h, .ref c_h]) ++ List.replicate (2 - (lg_sl ([.ref p_h, .ref c_h])).length) Slot.unset).toArray = ls at hl ⊢
  exact kwX1_takeBack B.exec B.bytes hml (findClass_of_methodNamed B.named) (atoms_spec (ws := wsX1_takeBack) B.pre) hN hK (fun q h => Or.inr h) (by decide) (by decide) ⟨Nat.zero_le _, Nat.zero_le _⟩ p_h p_knows_a p_seals_a p_dates_a p_draws_a c_h c_kinds_a c_seating_a c_knows_a c_seals_a c_telling_a p_knows p_seals p_dates p_draws p_next p_steps c_knows c_seals c_persons c_wax c_week c_day c_draw F w_p_next w_p_steps w_c_knows w_c_seals w_c_day w_c_draw hM _ _ _ hl hP hD0.self va_S.rf (fun H1 locs1 ls1 pc1 hd hP hD hS => W.vret B.exec B.bytes B.returns (fun t ht hW => ⟨⟨(), rfl, trivial, by rw [ht]; exact hP, hD⟩, hS.F ht⟩) hS.2.2 hd)

def fnX2_isMissing (F : Nat) (s_lane : Int32) : Option (Int32) :=
  (if s_lane = (-1 : Int32) then (some ((1 : Int32))) else (some ((0 : Int32))))
set_option maxHeartbeats 4000000 in
set_option maxRecDepth 100000 in
theorem kwX2_isMissing {p : Program} {l : Launch} {e : Env} {R : Room} {s : State} {m : MethodId} {args : Array Value} {below : List Frame} {meth : Method} {c : Code} {cells slots : Nat} {Q : State → Prop} {A : Nat → Prop} {H0 : Heap} {D : va_G} {cI cJ cS : ClassId} (hx : p.tables.exec = Jvm.exec) (hb : c.code = cX2_isMissing) (hml : c.maxLocals = 1) (hown : s.vm.findClass RX2 = some m.cls) (hts : ∀ w ∈ wsX2_isMissing, w.before args s = true) (hN : sx_N s) (hK : va_K D vwCl (sx_T cI cJ cS) s) (hA : ∀ q, H0.size ≤ q → A q) (hRf : 0 ≤ R.frames) (hRl : 0 ≤ R.locals) (hRc : cells ≤ R.cells ∧ slots ≤ R.slots) (s_h s_items_a : Nat) (s_lane : Int32) (s_length : Int32) (F : Nat) (r0 : Int32) (hM : fnX2_isMissing F s_lane = some r0) (H : Heap) (locs : List Loc) (ls : Array Slot) (hl : lv_has ls 1 [(0, .ref s_h)]) (hP : va_P D vwCl [(s_h, .inr (2, [.ref s_items_a, .int s_lane, .int s_length]))] H) (hD : va_D A [(s_h, .inr (2, [.ref s_items_a, .int s_lane, .int s_length]))]) (hS : va_S A H0 H locs)
    (hret : ∀ (H1 : Heap) (locs1 : List Loc) (ls1 : Array Slot) (pc1 : Nat), decode cX2_isMissing pc1 = .ok (.ireturn, 1) → narrow .boolean (.int r0) = .int r0 → va_P D vwCl [(s_h, .inr (2, [.ref s_items_a, .int s_lane, .int s_length]))] H1 → va_D A [(s_h, .inr (2, [.ref s_items_a, .int s_lane, .int s_length]))] → va_S A H0 H1 locs1 → W p l e R s m args below meth c H1 locs1 cells slots Q (F0 m pc1 ls1 [.int r0])) : W p l e R s m args below meth c H locs cells slots Q (F0 m 0 ls []) := by
  have hf_15 := hts (.fieldLink RX2 15 "SealedLips$Sheet" "lane" "I") (by decide +kernel)
  have hin_X2 : ∀ w ∈ wsX20, w ∈ wsX2_isMissing := by decide +kernel
  unfold fnX2_isMissing at hM
  refine lv_aload_n hx hb dX2_isMissing_0 rfl (lv_at hl 0 rfl) ?_
  refine va_get (D := D) (ci := 2) (v := .int s_lane) (C := RX2) (T := TX2) (N := 3) hx hb hts hin_X2 hown hK hP 0 rfl rfl 1 (by decide) hf_15 (fun _ h9 => h9) rfl dX2_isMissing_1 ?_
  refine lv_iconst (v := -1) hx hb dX2_isMissing_4 (by decide) ?_
  refine lv_icmp_ne (tgt := 12) hx hb dX2_isMissing_5 (by decide) (fun c1 => ?_) (fun c1 => ?_)
  · replace hM := sx_iff c1 hM
    refine lv_iconst (v := 0) hx hb dX2_isMissing_12 (by decide) ?_
    obtain rfl := sx_o1 hM
    exact hret _ _ _ _ dX2_isMissing_13 rfl (hP.sub [0] rfl) (hD.sub [0] (by decide) rfl) hS
  · replace hM := sx_ift c1 hM
    refine lv_iconst (v := 1) hx hb dX2_isMissing_8 (by decide) ?_
    refine lv_goto (tgt := 13) hx hb dX2_isMissing_9 (by decide) ?_
    obtain rfl := sx_o1 hM
    exact hret _ _ _ _ dX2_isMissing_13 rfl (hP.sub [0] rfl) (hD.sub [0] (by decide) rfl) hS
set_option maxHeartbeats 4000000 in
set_option maxRecDepth 100000 in
theorem mtX2_isMissing (l : Launch) (D : va_G) (cI cJ cS : ClassId) (sz : Nat) (s_h s_items_a : Nat) (s_lane : Int32) (s_length : Int32) (F : Nat) (r0 : Int32) (hM : fnX2_isMissing F s_lane = some r0) : sx_MI l yX2_isMissing wsX2_isMissing ({ frames := 0, cells := 0, slots := 0, locals := 0 }) D (sx_T cI cJ cS) sz [.ref s_h] [(s_h, .inr (2, [.ref s_items_a, .int s_lane, .int s_length]))] r0 [(s_h, .inr (2, [.ref s_items_a, .int s_lane, .int s_length]))] := by
  refine Met.ofW (cc := cX2_isMissing) (maxL := 1) (ret := (some .boolean)) (by decide) rfl ?_
  intro p e s m args below meth c s₁ B hml hv
  obtain ⟨rfl, hsz, hN, hP, hK, hD0⟩ := hv
  subst hsz
  have hl := lv_entry ([.ref s_h]) (n := 1) (Nat.le_of_ble_eq_true rfl)
  rw [lg_entry_eq]
  generalize (lg_sl ([.ref s_h]) ++ List.replicate (1 - (lg_sl ([.ref s_h])).length) Slot.unset).toArray = ls at hl ⊢
  exact kwX2_isMissing B.exec B.bytes hml (findClass_of_methodNamed B.named) (atoms_spec (ws := wsX2_isMissing) B.pre) hN hK (fun q h => Or.inr h) (by decide) (by decide) ⟨Nat.zero_le _, Nat.zero_le _⟩ s_h s_items_a s_lane s_length F r0 hM _ _ _ hl hP hD0.self va_S.rf (fun H1 locs1 ls1 pc1 hd hz hP hD hS => W.zret (v := r0) B.exec B.bytes B.returns hz (fun t ht hW => ⟨⟨r0, (), rfl, rfl, by rw [ht]; exact hP, hD⟩, hS.F ht⟩) hS.2.2 hd)

def bdJ7_fill_d0a16_6 (F : Nat) (x1_ : Int64) (x4_ : Int32) (r_ : Int32 → (Nat → Int64) → Option ((Nat → Int64))) (x3_ : Int32) (a_f : Nat → Int64) : Option ((Nat → Int64)) :=
  (if x4_ ≤ x3_ then (some (a_f)) else sx_gd (sx_ib x3_ 24) (sx_nm (x3_ + (1 : Int32)) (fun (v5 : Int32) => (r_ v5 (vp_updL a_f (x3_).toNatClampNeg x1_)))))
def fnJ7_fill_d0a16 (F : Nat) (a_f : Nat → Int64) (a2 : Int64) : Option ((Nat → Int64)) :=
  sx_lp2 (bdJ7_fill_d0a16_6 F a2 (24 : Int32)) F (0 : Int32) a_f
set_option maxHeartbeats 4000000 in
set_option maxRecDepth 100000 in
theorem kwJ7_fill_d0a16 {p : Program} {l : Launch} {e : Env} {R : Room} {s : State} {m : MethodId} {args : Array Value} {below : List Frame} {meth : Method} {c : Code} {cells slots : Nat} {Q : State → Prop} {A : Nat → Prop} {H0 : Heap} {D : va_G} {cI cJ cS : ClassId} (hx : p.tables.exec = Jvm.exec) (hb : c.code = cJ7_fill_d0a16) (hml : c.maxLocals = 5) (hown : s.vm.findClass RJ7 = some m.cls) (hts : ∀ w ∈ wsJ7_fill_d0a16, w.before args s = true) (hN : sx_N s) (hK : va_K D vwCl (sx_T cI cJ cS) s) (hA : ∀ q, H0.size ≤ q → A q) (hRf : 0 ≤ R.frames) (hRl : 0 ≤ R.locals) (hRc : cells ≤ R.cells ∧ slots ≤ R.slots) (a_a : Nat) (a_f : Nat → Int64) (a2 : Int64) (F : Nat) (w_a_f : Nat → Int64) (hM : fnJ7_fill_d0a16 F a_f a2 = some w_a_f) (H : Heap) (locs : List Loc) (ls : Array Slot) (hl : lv_has ls 5 [(0, .ref a_a), (1, .long a2)]) (hP : va_P D vwCl [(a_a, .inl (cJ, 24, .inr (.inl a_f)))] H) (hD : va_D A [(a_a, .inl (cJ, 24, .inr (.inl a_f)))]) (hS : va_S A H0 H locs)
    (hret : ∀ (H1 : Heap) (locs1 : List Loc) (ls1 : Array Slot) (pc1 : Nat), decode cJ7_fill_d0a16 pc1 = .ok (.return_, 1) → va_P D vwCl [(a_a, .inl (cJ, 24, .inr (.inl w_a_f)))] H1 → va_D A [(a_a, .inl (cJ, 24, .inr (.inl w_a_f)))] → va_S A H0 H1 locs1 → W p l e R s m args below meth c H1 locs1 cells slots Q (F0 m pc1 ls1 [])) : W p l e R s m args below meth c H locs cells slots Q (F0 m 0 ls []) := by
  unfold fnJ7_fill_d0a16 at hM
  refine lv_iconst (v := 0) hx hb dJ7_fill_d0a16_0 (by decide) ?_
  refine lv_istore_n (lv' := [(3, .int (0 : Int32)), (0, .ref a_a), (1, .long a2)]) hx hb dJ7_fill_d0a16_1 rfl hl (by decide) rfl (fun ls hl => ?_)
  refine lv_aload_n hx hb dJ7_fill_d0a16_2 rfl (lv_at hl 1 rfl) ?_
  refine va_alen (v := 24) hx hb hK hP 0 1 rfl rfl (show Int32.ofNat 24 = 24 by decide) dJ7_fill_d0a16_3 ?_
  refine lv_istore (lv' := [(4, .int (24 : Int32)), (3, .int (0 : Int32)), (0, .ref a_a), (1, .long a2)]) hx hb dJ7_fill_d0a16_4 hl (by decide) rfl (fun ls hl => ?_)
  have lp_6 : ∀ (n : Nat) (x1 : Int32) (z2 : Nat → Int64) (H : Heap) (locs : List Loc) (ls : Array Slot), sx_lp2 (bdJ7_fill_d0a16_6 F a2 (24 : Int32)) n x1 z2 = some w_a_f → lv_has ls 5 [(0, .ref a_a), (1, .long a2), (3, .int x1), (4, .int (24 : Int32))] → va_P D vwCl [(a_a, .inl (cJ, 24, .inr (.inl z2)))] H → va_D A [(a_a, .inl (cJ, 24, .inr (.inl z2)))] → va_S A H0 H locs → W p l e R s m args below meth c H locs cells slots Q (F0 m 6 ls ([])) := by
    intro n
    induction n with
    | zero => intro x1 z2 H locs ls hM; exact (sx_lp2_0 hM).elim
    | succ n ih =>
      intro x1 z2 H locs ls hM hl hP hD hS
      have hM : bdJ7_fill_d0a16_6 F a2 (24 : Int32) (sx_lp2 (bdJ7_fill_d0a16_6 F a2 (24 : Int32)) n) x1 z2 = some w_a_f := hM
      generalize sx_lp2 (bdJ7_fill_d0a16_6 F a2 (24 : Int32)) n = r_6 at hM ih
      unfold bdJ7_fill_d0a16_6 at hM
      refine lv_iload_n hx hb dJ7_fill_d0a16_6 rfl (lv_at hl 2 rfl) ?_
      refine lv_iload hx hb dJ7_fill_d0a16_7 (lv_at hl 3 rfl) ?_
      refine lv_icmp_ge (tgt := 22) hx hb dJ7_fill_d0a16_9 (by decide) (fun c3 => ?_) (fun c3 => ?_)
      · replace hM := sx_ift c3 hM
        obtain rfl := sx_o1 hM
        exact hret _ _ _ _ dJ7_fill_d0a16_22 (hP.sub [0] rfl) (hD.sub [0] (by decide) rfl) hS
      · replace hM := sx_iff c3 hM
        refine lv_aload_n hx hb dJ7_fill_d0a16_12 rfl (lv_at hl 0 rfl) ?_
        refine lv_iload_n hx hb dJ7_fill_d0a16_13 rfl (lv_at hl 2 rfl) ?_
        refine lv_lload_n hx hb dJ7_fill_d0a16_14 rfl (lv_at hl 1 rfl) ?_
        obtain ⟨g4, hM⟩ := sx_gd_s hM
        refine va_last hx hb hK hP hD hS 0 1 rfl rfl (sx_ib_s g4) dJ7_fill_d0a16_15 (fun H locs hP hD hS => ?_)
        have hP : va_P D vwCl [(a_a, .inl (cJ, 24, .inr (.inl (vp_updL z2 (x1).toNatClampNeg a2))))] H := hP
        have hD : va_D A [(a_a, .inl (cJ, 24, .inr (.inl (vp_updL z2 (x1).toNatClampNeg a2))))] := hD
        obtain ⟨v5, ev5, hM⟩ := sx_nm_s hM
        refine lv_iinc (v := v5) (lv' := [(3, .int v5), (0, .ref a_a), (1, .long a2), (4, .int (24 : Int32))]) hx hb dJ7_fill_d0a16_16 hl (k := 2) rfl (by rw [ev5]; rfl) (by decide) rfl (fun ls hl => ?_)
        refine lv_goto (tgt := 6) hx hb dJ7_fill_d0a16_19 (by decide) ?_
        exact ih v5 (vp_updL z2 (x1).toNatClampNeg a2) _ _ _ hM (lv_sub hl [1, 2, 0, 3] rfl) (hP.sub [0] rfl) (hD.sub [0] (by decide) rfl) hS
  exact lp_6 F (0 : Int32) a_f _ _ _ hM (lv_sub hl [2, 3, 1, 0] rfl) (hP.sub [0] rfl) (hD.sub [0] (by decide) rfl) hS
set_option maxHeartbeats 4000000 in
set_option maxRecDepth 100000 in
theorem mtJ7_fill_d0a16 (l : Launch) (D : va_G) (cI cJ cS : ClassId) (sz : Nat) (a_a : Nat) (a_f : Nat → Int64) (a2 : Int64) (F : Nat) (w_a_f : Nat → Int64) (hM : fnJ7_fill_d0a16 F a_f a2 = some w_a_f) : sx_MV l yJ7_fill_d0a16 wsJ7_fill_d0a16 ({ frames := 0, cells := 0, slots := 0, locals := 0 }) D (sx_T cI cJ cS) sz [.ref a_a, .long a2] [(a_a, .inl (cJ, 24, .inr (.inl a_f)))] [(a_a, .inl (cJ, 24, .inr (.inl w_a_f)))] := by
  refine Met.ofW (cc := cJ7_fill_d0a16) (maxL := 5) (ret := none) (by decide) rfl ?_
  intro p e s m args below meth c s₁ B hml hv
  obtain ⟨rfl, hsz, hN, hP, hK, hD0⟩ := hv
  subst hsz
  have hl := lv_entry ([.ref a_a, .long a2]) (n := 5) (Nat.le_of_ble_eq_true rfl)
  rw [lg_entry_eq]
  generalize (lg_sl ([.ref a_a, .long a2]) ++ List.replicate (5 - (lg_sl ([.ref a_a, .long a2])).length) Slot.unset).toArray = ls at hl ⊢
  exact kwJ7_fill_d0a16 B.exec B.bytes hml (findClass_of_methodNamed B.named) (atoms_spec (ws := wsJ7_fill_d0a16) B.pre) hN hK (fun q h => Or.inr h) (by decide) (by decide) ⟨Nat.zero_le _, Nat.zero_le _⟩ a_a a_f a2 F w_a_f hM _ _ _ hl hP hD0.self va_S.rf (fun H1 locs1 ls1 pc1 hd hP hD hS => W.vret B.exec B.bytes B.returns (fun t ht hW => ⟨⟨(), rfl, trivial, by rw [ht]; exact hP, hD⟩, hS.F ht⟩) hS.2.2 hd)

def fnX2_begin (F : Nat) (s_items : Nat → Int64) (s_lane : Int32) (s_length : Int32) (a1 : Int32) (a2 : Int32) : Option ((Nat → Int64) × Int32 × Int32) :=
  sx_c1 (fnJ7_fill_d0a16 F s_items (0 : Int64)) (fun (w1 : Nat → Int64) => (some (w1, a1, a2)))
set_option maxHeartbeats 4000000 in
set_option maxRecDepth 100000 in
theorem kwX2_begin {p : Program} {l : Launch} {e : Env} {R : Room} {s : State} {m : MethodId} {args : Array Value} {below : List Frame} {meth : Method} {c : Code} {cells slots : Nat} {Q : State → Prop} {A : Nat → Prop} {H0 : Heap} {D : va_G} {cI cJ cS : ClassId} (hx : p.tables.exec = Jvm.exec) (hb : c.code = cX2_begin) (hml : c.maxLocals = 3) (hown : s.vm.findClass RX2 = some m.cls) (hts : ∀ w ∈ wsX2_begin, w.before args s = true) (hN : sx_N s) (hK : va_K D vwCl (sx_T cI cJ cS) s) (hA : ∀ q, H0.size ≤ q → A q) (hRf : 1 ≤ R.frames) (hRl : 24 ≤ R.locals) (hRc : cells ≤ R.cells ∧ slots ≤ R.slots) (s_h s_items_a : Nat) (s_items : Nat → Int64) (s_lane : Int32) (s_length : Int32) (a1 : Int32) (a2 : Int32) (F : Nat) (w_s_items : Nat → Int64) (w_s_lane : Int32) (w_s_length : Int32) (hM : fnX2_begin F s_items s_lane s_length a1 a2 = some (w_s_items, w_s_lane, w_s_length)) (H : Heap) (locs : List Loc) (ls : Array Slot) (hl : lv_has ls 3 [(0, .ref s_h), (1, .int a1), (2, .int a2)]) (hP : va_P D vwCl [(s_h, .inr (2, [.ref s_items_a, .int s_lane, .int s_length])), (s_items_a, .inl (cJ, 24, .inr (.inl s_items)))] H) (hD : va_D A [(s_h, .inr (2, [.ref s_items_a, .int s_lane, .int s_length])), (s_items_a, .inl (cJ, 24, .inr (.inl s_items)))]) (hS : va_S A H0 H locs)
    (hret : ∀ (H1 : Heap) (locs1 : List Loc) (ls1 : Array Slot) (pc1 : Nat), decode cX2_begin pc1 = .ok (.return_, 1) → va_P D vwCl [(s_h, .inr (2, [.ref s_items_a, .int w_s_lane, .int w_s_length])), (s_items_a, .inl (cJ, 24, .inr (.inl w_s_items)))] H1 → va_D A [(s_h, .inr (2, [.ref s_items_a, .int w_s_lane, .int w_s_length])), (s_items_a, .inl (cJ, 24, .inr (.inl w_s_items)))] → va_S A H0 H1 locs1 → W p l e R s m args below meth c H1 locs1 cells slots Q (F0 m pc1 ls1 [])) : W p l e R s m args below meth c H locs cells slots Q (F0 m 0 ls []) := by
  have hf_9 := hts (.fieldLink RX2 9 "SealedLips$Sheet" "items" "[J") (by decide +kernel)
  have hf_15 := hts (.fieldLink RX2 15 "SealedLips$Sheet" "lane" "I") (by decide +kernel)
  have hf_25 := hts (.fieldLink RX2 25 "SealedLips$Sheet" "length" "I") (by decide +kernel)
  have hin_X2 : ∀ w ∈ wsX20, w ∈ wsX2_begin := by decide +kernel
  unfold fnX2_begin at hM
  refine lv_aload_n hx hb dX2_begin_0 rfl (lv_at hl 0 rfl) ?_
  refine va_get (D := D) (ci := 2) (v := .ref s_items_a) (C := RX2) (T := TX2) (N := 3) hx hb hts hin_X2 hown hK hP 0 rfl rfl 0 (by decide) hf_9 (fun _ h9 => h9) rfl dX2_begin_1 ?_
  refine lv_lconst (v := 0) hx hb dX2_begin_4 (by decide) ?_
  obtain ⟨w1, hc2, hM⟩ := sx_c1_s hM
  refine sx_vS (As := [.ref s_items_a, .long (0 : Int64)]) (rest := []) (wc := [(s_items_a, .inl (cJ, 24, .inr (.inl s_items)))]) (wr := [(s_h, .inr (2, [.ref s_items_a, .int s_lane, .int s_length]))]) (w1 := [(s_items_a, .inl (cJ, 24, .inr (.inl w1)))]) ⟨hx, hb, hml, hown, hts⟩ (mtJ7_fill_d0a16 l D cI cJ cS H.size s_items_a s_items (0 : Int64) F w1 hc2) (va_cwS 2 hts gX2_begin_J7_fill_d0a16 rfl rfl rfl (by decide +kernel) ⟨Nat.le_trans (by decide) hRf, Nat.le_trans (by decide) hRl⟩) hK hN hP hD hS hA [1] [0] rfl (by decide) rfl (by decide) (by decide) rfl hl.1 rfl (Nat.le_of_ble_eq_true rfl) dX2_begin_5 hRc (fun H locs hP hD hS => ?_)
  have hP : va_P D vwCl [(s_h, .inr (2, [.ref s_items_a, .int s_lane, .int s_length])), (s_items_a, .inl (cJ, 24, .inr (.inl w1)))] H := hP
  have hD : va_D A [(s_h, .inr (2, [.ref s_items_a, .int s_lane, .int s_length])), (s_items_a, .inl (cJ, 24, .inr (.inl w1)))] := hD
  refine lv_aload_n hx hb dX2_begin_8 rfl (lv_at hl 0 rfl) ?_
  refine lv_iload_n hx hb dX2_begin_9 rfl (lv_at hl 1 rfl) ?_
  refine va_put (D := D) (ci := 2) (v := .int a1) (ty := .int) (C := RX2) (T := TX2) (N := 3) hx hb hts hin_X2 tyX2 tyX2_ok nmX2 hown hK hP hD hS 0 rfl rfl 1 (by decide) hf_15 (fun _ h9 => h9) rfl (tyX2_ok 1 (by decide)) rfl rfl (Nat.le_of_ble_eq_true rfl) dX2_begin_10 (fun H locs hP hD hS => ?_)
  have hP : va_P D vwCl [(s_h, .inr (2, [.ref s_items_a, .int a1, .int s_length])), (s_items_a, .inl (cJ, 24, .inr (.inl w1)))] H := hP
  have hD : va_D A [(s_h, .inr (2, [.ref s_items_a, .int a1, .int s_length])), (s_items_a, .inl (cJ, 24, .inr (.inl w1)))] := hD
  refine lv_aload_n hx hb dX2_begin_13 rfl (lv_at hl 0 rfl) ?_
  refine lv_iload_n hx hb dX2_begin_14 rfl (lv_at hl 2 rfl) ?_
  refine va_put (D := D) (ci := 2) (v := .int a2) (ty := .int) (C := RX2) (T := TX2) (N := 3) hx hb hts hin_X2 tyX2 tyX2_ok nmX2 hown hK hP hD hS 0 rfl rfl 2 (by decide) hf_25 (fun _ h9 => h9) rfl (tyX2_ok 2 (by decide)) rfl rfl (Nat.le_of_ble_eq_true rfl) dX2_begin_15 (fun H locs hP hD hS => ?_)
  have hP : va_P D vwCl [(s_h, .inr (2, [.ref s_items_a, .int a1, .int a2])), (s_items_a, .inl (cJ, 24, .inr (.inl w1)))] H := hP
  have hD : va_D A [(s_h, .inr (2, [.ref s_items_a, .int a1, .int a2])), (s_items_a, .inl (cJ, 24, .inr (.inl w1)))] := hD
  obtain ⟨rfl, rfl, rfl⟩ := sx_o3 hM
  exact hret _ _ _ _ dX2_begin_18 (hP.sub [0, 1] rfl) (hD.sub [0, 1] (by decide) rfl) hS
set_option maxHeartbeats 4000000 in
set_option maxRecDepth 100000 in
theorem mtX2_begin (l : Launch) (D : va_G) (cI cJ cS : ClassId) (sz : Nat) (s_h s_items_a : Nat) (s_items : Nat → Int64) (s_lane : Int32) (s_length : Int32) (a1 : Int32) (a2 : Int32) (F : Nat) (w_s_items : Nat → Int64) (w_s_lane : Int32) (w_s_length : Int32) (hM : fnX2_begin F s_items s_lane s_length a1 a2 = some (w_s_items, w_s_lane, w_s_length)) : sx_MV l yX2_begin wsX2_begin ({ frames := 1, cells := 0, slots := 0, locals := 24 }) D (sx_T cI cJ cS) sz [.ref s_h, .int a1, .int a2] [(s_h, .inr (2, [.ref s_items_a, .int s_lane, .int s_length])), (s_items_a, .inl (cJ, 24, .inr (.inl s_items)))] [(s_h, .inr (2, [.ref s_items_a, .int w_s_lane, .int w_s_length])), (s_items_a, .inl (cJ, 24, .inr (.inl w_s_items)))] := by
  refine Met.ofW (cc := cX2_begin) (maxL := 3) (ret := none) (by decide) rfl ?_
  intro p e s m args below meth c s₁ B hml hv
  obtain ⟨rfl, hsz, hN, hP, hK, hD0⟩ := hv
  subst hsz
  have hl := lv_entry ([.ref s_h, .int a1, .int a2]) (n := 3) (Nat.le_of_ble_eq_true rfl)
  rw [lg_entry_eq]
  generalize (lg_sl ([.ref s_h, .int a1, .int a2]) ++ List.replicate (3 - (lg_sl ([.ref s_h, .int a1, .int a2])).length) Slot.unset).toArray = ls at hl ⊢
  exact kwX2_begin B.exec B.bytes hml (findClass_of_methodNamed B.named) (atoms_spec (ws := wsX2_begin) B.pre) hN hK (fun q h => Or.inr h) (by decide) (by decide) ⟨Nat.zero_le _, Nat.zero_le _⟩ s_h s_items_a s_items s_lane s_length a1 a2 F w_s_items w_s_lane w_s_length hM _ _ _ hl hP hD0.self va_S.rf (fun H1 locs1 ls1 pc1 hd hP hD hS => W.vret B.exec B.bytes B.returns (fun t ht hW => ⟨⟨(), rfl, trivial, by rw [ht]; exact hP, hD⟩, hS.F ht⟩) hS.2.2 hd)

def fnX2_lose (F : Nat) (s_lane : Int32) (s_length : Int32) : Option (Int32 × Int32) :=
  (some ((-1 : Int32), (0 : Int32)))
set_option maxHeartbeats 4000000 in
set_option maxRecDepth 100000 in
theorem kwX2_lose {p : Program} {l : Launch} {e : Env} {R : Room} {s : State} {m : MethodId} {args : Array Value} {below : List Frame} {meth : Method} {c : Code} {cells slots : Nat} {Q : State → Prop} {A : Nat → Prop} {H0 : Heap} {D : va_G} {cI cJ cS : ClassId} (hx : p.tables.exec = Jvm.exec) (hb : c.code = cX2_lose) (hml : c.maxLocals = 1) (hown : s.vm.findClass RX2 = some m.cls) (hts : ∀ w ∈ wsX2_lose, w.before args s = true) (hN : sx_N s) (hK : va_K D vwCl (sx_T cI cJ cS) s) (hA : ∀ q, H0.size ≤ q → A q) (hRf : 0 ≤ R.frames) (hRl : 0 ≤ R.locals) (hRc : cells ≤ R.cells ∧ slots ≤ R.slots) (s_h s_items_a : Nat) (s_lane : Int32) (s_length : Int32) (F : Nat) (w_s_lane : Int32) (w_s_length : Int32) (hM : fnX2_lose F s_lane s_length = some (w_s_lane, w_s_length)) (H : Heap) (locs : List Loc) (ls : Array Slot) (hl : lv_has ls 1 [(0, .ref s_h)]) (hP : va_P D vwCl [(s_h, .inr (2, [.ref s_items_a, .int s_lane, .int s_length]))] H) (hD : va_D A [(s_h, .inr (2, [.ref s_items_a, .int s_lane, .int s_length]))]) (hS : va_S A H0 H locs)
    (hret : ∀ (H1 : Heap) (locs1 : List Loc) (ls1 : Array Slot) (pc1 : Nat), decode cX2_lose pc1 = .ok (.return_, 1) → va_P D vwCl [(s_h, .inr (2, [.ref s_items_a, .int w_s_lane, .int w_s_length]))] H1 → va_D A [(s_h, .inr (2, [.ref s_items_a, .int w_s_lane, .int w_s_length]))] → va_S A H0 H1 locs1 → W p l e R s m args below meth c H1 locs1 cells slots Q (F0 m pc1 ls1 [])) : W p l e R s m args below meth c H locs cells slots Q (F0 m 0 ls []) := by
  have hf_15 := hts (.fieldLink RX2 15 "SealedLips$Sheet" "lane" "I") (by decide +kernel)
  have hf_25 := hts (.fieldLink RX2 25 "SealedLips$Sheet" "length" "I") (by decide +kernel)
  have hin_X2 : ∀ w ∈ wsX20, w ∈ wsX2_lose := by decide +kernel
  unfold fnX2_lose at hM
  refine lv_aload_n hx hb dX2_lose_0 rfl (lv_at hl 0 rfl) ?_
  refine lv_iconst (v := -1) hx hb dX2_lose_1 (by decide) ?_
  refine va_put (D := D) (ci := 2) (v := .int (-1 : Int32)) (ty := .int) (C := RX2) (T := TX2) (N := 3) hx hb hts hin_X2 tyX2 tyX2_ok nmX2 hown hK hP hD hS 0 rfl rfl 1 (by decide) hf_15 (fun _ h9 => h9) rfl (tyX2_ok 1 (by decide)) rfl rfl (Nat.le_of_ble_eq_true rfl) dX2_lose_2 (fun H locs hP hD hS => ?_)
  have hP : va_P D vwCl [(s_h, .inr (2, [.ref s_items_a, .int (-1 : Int32), .int s_length]))] H := hP
  have hD : va_D A [(s_h, .inr (2, [.ref s_items_a, .int (-1 : Int32), .int s_length]))] := hD
  refine lv_aload_n hx hb dX2_lose_5 rfl (lv_at hl 0 rfl) ?_
  refine lv_iconst (v := 0) hx hb dX2_lose_6 (by decide) ?_
  refine va_put (D := D) (ci := 2) (v := .int (0 : Int32)) (ty := .int) (C := RX2) (T := TX2) (N := 3) hx hb hts hin_X2 tyX2 tyX2_ok nmX2 hown hK hP hD hS 0 rfl rfl 2 (by decide) hf_25 (fun _ h9 => h9) rfl (tyX2_ok 2 (by decide)) rfl rfl (Nat.le_of_ble_eq_true rfl) dX2_lose_7 (fun H locs hP hD hS => ?_)
  have hP : va_P D vwCl [(s_h, .inr (2, [.ref s_items_a, .int (-1 : Int32), .int (0 : Int32)]))] H := hP
  have hD : va_D A [(s_h, .inr (2, [.ref s_items_a, .int (-1 : Int32), .int (0 : Int32)]))] := hD
  obtain ⟨rfl, rfl⟩ := sx_o2 hM
  exact hret _ _ _ _ dX2_lose_10 (hP.sub [0] rfl) (hD.sub [0] (by decide) rfl) hS
set_option maxHeartbeats 4000000 in
set_option maxRecDepth 100000 in
theorem mtX2_lose (l : Launch) (D : va_G) (cI cJ cS : ClassId) (sz : Nat) (s_h s_items_a : Nat) (s_lane : Int32) (s_length : Int32) (F : Nat) (w_s_lane : Int32) (w_s_length : Int32) (hM : fnX2_lose F s_lane s_length = some (w_s_lane, w_s_length)) : sx_MV l yX2_lose wsX2_lose ({ frames := 0, cells := 0, slots := 0, locals := 0 }) D (sx_T cI cJ cS) sz [.ref s_h] [(s_h, .inr (2, [.ref s_items_a, .int s_lane, .int s_length]))] [(s_h, .inr (2, [.ref s_items_a, .int w_s_lane, .int w_s_length]))] := by
  refine Met.ofW (cc := cX2_lose) (maxL := 1) (ret := none) (by decide) rfl ?_
  intro p e s m args below meth c s₁ B hml hv
  obtain ⟨rfl, hsz, hN, hP, hK, hD0⟩ := hv
  subst hsz
  have hl := lv_entry ([.ref s_h]) (n := 1) (Nat.le_of_ble_eq_true rfl)
  rw [lg_entry_eq]
  generalize (lg_sl ([.ref s_h]) ++ List.replicate (1 - (lg_sl ([.ref s_h])).length) Slot.unset).toArray = ls at hl ⊢
  exact kwX2_lose B.exec B.bytes hml (findClass_of_methodNamed B.named) (atoms_spec (ws := wsX2_lose) B.pre) hN hK (fun q h => Or.inr h) (by decide) (by decide) ⟨Nat.zero_le _, Nat.zero_le _⟩ s_h s_items_a s_lane s_length F w_s_lane w_s_length hM _ _ _ hl hP hD0.self va_S.rf (fun H1 locs1 ls1 pc1 hd hP hD hS => W.vret B.exec B.bytes B.returns (fun t ht hW => ⟨⟨(), rfl, trivial, by rw [ht]; exact hP, hD⟩, hS.F ht⟩) hS.2.2 hd)

def fnX2_holds (F : Nat) (s_length : Int32) (a1 : Int32) (a2 : Int32) : Option (Int32) :=
  (if a1 < 0 then (some ((0 : Int32))) else (if a2 < 0 then (some ((0 : Int32))) else (if (s_length - a2) < a1 then (some ((0 : Int32))) else (some ((1 : Int32))))))
set_option maxHeartbeats 4000000 in
set_option maxRecDepth 100000 in
theorem kwX2_holds {p : Program} {l : Launch} {e : Env} {R : Room} {s : State} {m : MethodId} {args : Array Value} {below : List Frame} {meth : Method} {c : Code} {cells slots : Nat} {Q : State → Prop} {A : Nat → Prop} {H0 : Heap} {D : va_G} {cI cJ cS : ClassId} (hx : p.tables.exec = Jvm.exec) (hb : c.code = cX2_holds) (hml : c.maxLocals = 3) (hown : s.vm.findClass RX2 = some m.cls) (hts : ∀ w ∈ wsX2_holds, w.before args s = true) (hN : sx_N s) (hK : va_K D vwCl (sx_T cI cJ cS) s) (hA : ∀ q, H0.size ≤ q → A q) (hRf : 0 ≤ R.frames) (hRl : 0 ≤ R.locals) (hRc : cells ≤ R.cells ∧ slots ≤ R.slots) (s_h s_items_a : Nat) (s_lane : Int32) (s_length : Int32) (a1 : Int32) (a2 : Int32) (F : Nat) (r0 : Int32) (hM : fnX2_holds F s_length a1 a2 = some r0) (H : Heap) (locs : List Loc) (ls : Array Slot) (hl : lv_has ls 3 [(0, .ref s_h), (1, .int a1), (2, .int a2)]) (hP : va_P D vwCl [(s_h, .inr (2, [.ref s_items_a, .int s_lane, .int s_length]))] H) (hD : va_D A [(s_h, .inr (2, [.ref s_items_a, .int s_lane, .int s_length]))]) (hS : va_S A H0 H locs)
    (hret : ∀ (H1 : Heap) (locs1 : List Loc) (ls1 : Array Slot) (pc1 : Nat), decode cX2_holds pc1 = .ok (.ireturn, 1) → narrow .boolean (.int r0) = .int r0 → va_P D vwCl [(s_h, .inr (2, [.ref s_items_a, .int s_lane, .int s_length]))] H1 → va_D A [(s_h, .inr (2, [.ref s_items_a, .int s_lane, .int s_length]))] → va_S A H0 H1 locs1 → W p l e R s m args below meth c H1 locs1 cells slots Q (F0 m pc1 ls1 [.int r0])) : W p l e R s m args below meth c H locs cells slots Q (F0 m 0 ls []) := by
  have hf_25 := hts (.fieldLink RX2 25 "SealedLips$Sheet" "length" "I") (by decide +kernel)
  have hin_X2 : ∀ w ∈ wsX20, w ∈ wsX2_holds := by decide +kernel
  unfold fnX2_holds at hM
  refine lv_iload_n hx hb dX2_holds_0 rfl (lv_at hl 1 rfl) ?_
  refine lv_if_lt (tgt := 22) hx hb dX2_holds_1 (by decide) (fun c1 => ?_) (fun c1 => ?_)
  · replace hM := sx_ift c1 hM
    refine lv_iconst (v := 0) hx hb dX2_holds_22 (by decide) ?_
    obtain rfl := sx_o1 hM
    exact hret _ _ _ _ dX2_holds_23 rfl (hP.sub [0] rfl) (hD.sub [0] (by decide) rfl) hS
  · replace hM := sx_iff c1 hM
    refine lv_iload_n hx hb dX2_holds_4 rfl (lv_at hl 2 rfl) ?_
    refine lv_if_lt (tgt := 22) hx hb dX2_holds_5 (by decide) (fun c2 => ?_) (fun c2 => ?_)
    · replace hM := sx_ift c2 hM
      refine lv_iconst (v := 0) hx hb dX2_holds_22 (by decide) ?_
      obtain rfl := sx_o1 hM
      exact hret _ _ _ _ dX2_holds_23 rfl (hP.sub [0] rfl) (hD.sub [0] (by decide) rfl) hS
    · replace hM := sx_iff c2 hM
      refine lv_iload_n hx hb dX2_holds_8 rfl (lv_at hl 1 rfl) ?_
      refine lv_aload_n hx hb dX2_holds_9 rfl (lv_at hl 0 rfl) ?_
      refine va_get (D := D) (ci := 2) (v := .int s_length) (C := RX2) (T := TX2) (N := 3) hx hb hts hin_X2 hown hK hP 0 rfl rfl 2 (by decide) hf_25 (fun _ h9 => h9) rfl dX2_holds_10 ?_
      refine lv_iload_n hx hb dX2_holds_13 rfl (lv_at hl 2 rfl) ?_
      refine lv_isub hx hb dX2_holds_14 ?_
      refine lv_icmp_gt (tgt := 22) hx hb dX2_holds_15 (by decide) (fun c3 => ?_) (fun c3 => ?_)
      · replace hM := sx_ift c3 hM
        refine lv_iconst (v := 0) hx hb dX2_holds_22 (by decide) ?_
        obtain rfl := sx_o1 hM
        exact hret _ _ _ _ dX2_holds_23 rfl (hP.sub [0] rfl) (hD.sub [0] (by decide) rfl) hS
      · replace hM := sx_iff c3 hM
        refine lv_iconst (v := 1) hx hb dX2_holds_18 (by decide) ?_
        refine lv_goto (tgt := 23) hx hb dX2_holds_19 (by decide) ?_
        obtain rfl := sx_o1 hM
        exact hret _ _ _ _ dX2_holds_23 rfl (hP.sub [0] rfl) (hD.sub [0] (by decide) rfl) hS
set_option maxHeartbeats 4000000 in
set_option maxRecDepth 100000 in
theorem mtX2_holds (l : Launch) (D : va_G) (cI cJ cS : ClassId) (sz : Nat) (s_h s_items_a : Nat) (s_lane : Int32) (s_length : Int32) (a1 : Int32) (a2 : Int32) (F : Nat) (r0 : Int32) (hM : fnX2_holds F s_length a1 a2 = some r0) : sx_MI l yX2_holds wsX2_holds ({ frames := 0, cells := 0, slots := 0, locals := 0 }) D (sx_T cI cJ cS) sz [.ref s_h, .int a1, .int a2] [(s_h, .inr (2, [.ref s_items_a, .int s_lane, .int s_length]))] r0 [(s_h, .inr (2, [.ref s_items_a, .int s_lane, .int s_length]))] := by
  refine Met.ofW (cc := cX2_holds) (maxL := 3) (ret := (some .boolean)) (by decide) rfl ?_
  intro p e s m args below meth c s₁ B hml hv
  obtain ⟨rfl, hsz, hN, hP, hK, hD0⟩ := hv
  subst hsz
  have hl := lv_entry ([.ref s_h, .int a1, .int a2]) (n := 3) (Nat.le_of_ble_eq_true rfl)
  rw [lg_entry_eq]
  generalize (lg_sl ([.ref s_h, .int a1, .int a2]) ++ List.replicate (3 - (lg_sl ([.ref s_h, .int a1, .int a2])).length) Slot.unset).toArray = ls at hl ⊢
  exact kwX2_holds B.exec B.bytes hml (findClass_of_methodNamed B.named) (atoms_spec (ws := wsX2_holds) B.pre) hN hK (fun q h => Or.inr h) (by decide) (by decide) ⟨Nat.zero_le _, Nat.zero_le _⟩ s_h s_items_a s_lane s_length a1 a2 F r0 hM _ _ _ hl hP hD0.self va_S.rf (fun H1 locs1 ls1 pc1 hd hz hP hD hS => W.zret (v := r0) B.exec B.bytes B.returns hz (fun t ht hW => ⟨⟨r0, (), rfl, rfl, by rw [ht]; exact hP, hD⟩, hS.F ht⟩) hS.2.2 hd)

def fnX2_refusal (F : Nat) (s_lane : Int32) (s_length : Int32) (a1 : Int32) (a2 : Int32) (a3 : Int32) : Option (Int32) :=
  sx_c1 (fnX2_isMissing F s_lane) (fun (r1 : Int32) => (if r1 = 0 then (if s_lane = a1 then sx_c1 (fnX2_holds F s_length a2 a3) (fun (r5 : Int32) => (if r5 = 0 then (some ((-13 : Int32))) else (some ((0 : Int32))))) else (some ((-12 : Int32)))) else (some ((-11 : Int32)))))
set_option maxHeartbeats 4000000 in
set_option maxRecDepth 100000 in
theorem kwX2_refusal {p : Program} {l : Launch} {e : Env} {R : Room} {s : State} {m : MethodId} {args : Array Value} {below : List Frame} {meth : Method} {c : Code} {cells slots : Nat} {Q : State → Prop} {A : Nat → Prop} {H0 : Heap} {D : va_G} {cI cJ cS : ClassId} (hx : p.tables.exec = Jvm.exec) (hb : c.code = cX2_refusal) (hml : c.maxLocals = 4) (hown : s.vm.findClass RX2 = some m.cls) (hts : ∀ w ∈ wsX2_refusal, w.before args s = true) (hN : sx_N s) (hK : va_K D vwCl (sx_T cI cJ cS) s) (hA : ∀ q, H0.size ≤ q → A q) (hRf : 1 ≤ R.frames) (hRl : 22 ≤ R.locals) (hRc : cells ≤ R.cells ∧ slots ≤ R.slots) (s_h s_items_a : Nat) (s_lane : Int32) (s_length : Int32) (a1 : Int32) (a2 : Int32) (a3 : Int32) (F : Nat) (r0 : Int32) (hM : fnX2_refusal F s_lane s_length a1 a2 a3 = some r0) (H : Heap) (locs : List Loc) (ls : Array Slot) (hl : lv_has ls 4 [(0, .ref s_h), (1, .int a1), (2, .int a2), (3, .int a3)]) (hP : va_P D vwCl [(s_h, .inr (2, [.ref s_items_a, .int s_lane, .int s_length]))] H) (hD : va_D A [(s_h, .inr (2, [.ref s_items_a, .int s_lane, .int s_length]))]) (hS : va_S A H0 H locs)
    (hret : ∀ (H1 : Heap) (locs1 : List Loc) (ls1 : Array Slot) (pc1 : Nat), decode cX2_refusal pc1 = .ok (.ireturn, 1) → va_P D vwCl [(s_h, .inr (2, [.ref s_items_a, .int s_lane, .int s_length]))] H1 → va_D A [(s_h, .inr (2, [.ref s_items_a, .int s_lane, .int s_length]))] → va_S A H0 H1 locs1 → W p l e R s m args below meth c H1 locs1 cells slots Q (F0 m pc1 ls1 [.int r0])) : W p l e R s m args below meth c H locs cells slots Q (F0 m 0 ls []) := by
  have hf_15 := hts (.fieldLink RX2 15 "SealedLips$Sheet" "lane" "I") (by decide +kernel)
  have hin_X2 : ∀ w ∈ wsX20, w ∈ wsX2_refusal := by decide +kernel
  unfold fnX2_refusal at hM
  refine lv_aload_n hx hb dX2_refusal_0 rfl (lv_at hl 0 rfl) ?_
  obtain ⟨r1, hc2, hM⟩ := sx_c1_s hM
  refine sx_iV (As := []) (rest := []) (wc := [(s_h, .inr (2, [.ref s_items_a, .int s_lane, .int s_length]))]) (wr := []) (w1 := [(s_h, .inr (2, [.ref s_items_a, .int s_lane, .int s_length]))]) ⟨hx, hb, hml, hown, hts⟩ (mtX2_isMissing l D cI cJ cS H.size s_h s_items_a s_lane s_length F r1 hc2) (cwV 0 hts gX2_refusal_X2_isMissing rfl rfl rfl (by decide +kernel) ⟨Nat.le_trans (by decide) hRf, Nat.le_trans (by decide) hRl⟩) hK hN hP hD hS hA [0] [] rfl (by decide) rfl (by decide) (by decide) rfl rfl rfl rfl hl.1 rfl (Nat.le_of_ble_eq_true rfl) dX2_refusal_1 hRc (fun H locs hP hD hS => ?_)
  have hP : va_P D vwCl [(s_h, .inr (2, [.ref s_items_a, .int s_lane, .int s_length]))] H := hP
  have hD : va_D A [(s_h, .inr (2, [.ref s_items_a, .int s_lane, .int s_length]))] := hD
  refine lv_if_eq (tgt := 10) hx hb dX2_refusal_4 (by decide) (fun c3 => ?_) (fun c3 => ?_)
  · replace hM := sx_ift c3 hM
    refine lv_aload_n hx hb dX2_refusal_10 rfl (lv_at hl 0 rfl) ?_
    refine va_get (D := D) (ci := 2) (v := .int s_lane) (C := RX2) (T := TX2) (N := 3) hx hb hts hin_X2 hown hK hP 0 rfl rfl 1 (by decide) hf_15 (fun _ h9 => h9) rfl dX2_refusal_11 ?_
    refine lv_iload_n hx hb dX2_refusal_14 rfl (lv_at hl 1 rfl) ?_
    refine lv_icmp_eq (tgt := 21) hx hb dX2_refusal_15 (by decide) (fun c4 => ?_) (fun c4 => ?_)
    · replace hM := sx_ift c4 hM
      refine lv_aload_n hx hb dX2_refusal_21 rfl (lv_at hl 0 rfl) ?_
      refine lv_iload_n hx hb dX2_refusal_22 rfl (lv_at hl 2 rfl) ?_
      refine lv_iload_n hx hb dX2_refusal_23 rfl (lv_at hl 3 rfl) ?_
      obtain ⟨r5, hc6, hM⟩ := sx_c1_s hM
      refine sx_iV (As := [.int a2, .int a3]) (rest := []) (wc := [(s_h, .inr (2, [.ref s_items_a, .int s_lane, .int s_length]))]) (wr := []) (w1 := [(s_h, .inr (2, [.ref s_items_a, .int s_lane, .int s_length]))]) ⟨hx, hb, hml, hown, hts⟩ (mtX2_holds l D cI cJ cS H.size s_h s_items_a s_lane s_length a2 a3 F r5 hc6) (cwV 2 hts gX2_refusal_X2_holds rfl rfl rfl (by decide +kernel) ⟨Nat.le_trans (by decide) hRf, Nat.le_trans (by decide) hRl⟩) hK hN hP hD hS hA [0] [] rfl (by decide) rfl (by decide) (by decide) rfl rfl rfl rfl hl.1 rfl (Nat.le_of_ble_eq_true rfl) dX2_refusal_24 hRc (fun H locs hP hD hS => ?_)
      have hP : va_P D vwCl [(s_h, .inr (2, [.ref s_items_a, .int s_lane, .int s_length]))] H := hP
      have hD : va_D A [(s_h, .inr (2, [.ref s_items_a, .int s_lane, .int s_length]))] := hD
      refine lv_if_eq (tgt := 34) hx hb dX2_refusal_27 (by decide) (fun c7 => ?_) (fun c7 => ?_)
      · replace hM := sx_ift c7 hM
        refine lv_bipush (v := -13) hx hb dX2_refusal_34 (by decide) ?_
        obtain rfl := sx_o1 hM
        exact hret _ _ _ _ dX2_refusal_36 (hP.sub [0] rfl) (hD.sub [0] (by decide) rfl) hS
      · replace hM := sx_iff c7 hM
        refine lv_iconst (v := 0) hx hb dX2_refusal_30 (by decide) ?_
        refine lv_goto (tgt := 36) hx hb dX2_refusal_31 (by decide) ?_
        obtain rfl := sx_o1 hM
        exact hret _ _ _ _ dX2_refusal_36 (hP.sub [0] rfl) (hD.sub [0] (by decide) rfl) hS
    · replace hM := sx_iff c4 hM
      refine lv_bipush (v := -12) hx hb dX2_refusal_18 (by decide) ?_
      obtain rfl := sx_o1 hM
      exact hret _ _ _ _ dX2_refusal_20 (hP.sub [0] rfl) (hD.sub [0] (by decide) rfl) hS
  · replace hM := sx_iff c3 hM
    refine lv_bipush (v := -11) hx hb dX2_refusal_7 (by decide) ?_
    obtain rfl := sx_o1 hM
    exact hret _ _ _ _ dX2_refusal_9 (hP.sub [0] rfl) (hD.sub [0] (by decide) rfl) hS
set_option maxHeartbeats 4000000 in
set_option maxRecDepth 100000 in
theorem mtX2_refusal (l : Launch) (D : va_G) (cI cJ cS : ClassId) (sz : Nat) (s_h s_items_a : Nat) (s_lane : Int32) (s_length : Int32) (a1 : Int32) (a2 : Int32) (a3 : Int32) (F : Nat) (r0 : Int32) (hM : fnX2_refusal F s_lane s_length a1 a2 a3 = some r0) : sx_MI l yX2_refusal wsX2_refusal ({ frames := 1, cells := 0, slots := 0, locals := 22 }) D (sx_T cI cJ cS) sz [.ref s_h, .int a1, .int a2, .int a3] [(s_h, .inr (2, [.ref s_items_a, .int s_lane, .int s_length]))] r0 [(s_h, .inr (2, [.ref s_items_a, .int s_lane, .int s_length]))] := by
  refine Met.ofW (cc := cX2_refusal) (maxL := 4) (ret := (some .int)) (by decide) rfl ?_
  intro p e s m args below meth c s₁ B hml hv
  obtain ⟨rfl, hsz, hN, hP, hK, hD0⟩ := hv
  subst hsz
  have hl := lv_entry ([.ref s_h, .int a1, .int a2, .int a3]) (n := 4) (Nat.le_of_ble_eq_true rfl)
  rw [lg_entry_eq]
  generalize (lg_sl ([.ref s_h, .int a1, .int a2, .int a3]) ++ List.replicate (4 - (lg_sl ([.ref s_h, .int a1, .int a2, .int a3])).length) Slot.unset).toArray = ls at hl ⊢
  exact kwX2_refusal B.exec B.bytes hml (findClass_of_methodNamed B.named) (atoms_spec (ws := wsX2_refusal) B.pre) hN hK (fun q h => Or.inr h) (by decide) (by decide) ⟨Nat.zero_le _, Nat.zero_le _⟩ s_h s_items_a s_lane s_length a1 a2 a3 F r0 hM _ _ _ hl hP hD0.self va_S.rf (fun H1 locs1 ls1 pc1 hd hP hD hS => W.iret (v := r0) B.exec B.bytes B.returns (fun t ht hW => ⟨⟨r0, (), rfl, rfl, by rw [ht]; exact hP, hD⟩, hS.F ht⟩) hS.2.2 hd)

def fnX2_put (F : Nat) (s_items : Nat → Int64) (s_lane : Int32) (a1 : Int32) (a2 : Int64) : Option ((Nat → Int64)) :=
  (if s_lane = (0 : Int32) then sx_gd (sx_ib a1 24) ((some ((vp_updL s_items (a1).toNatClampNeg (((a2).toInt32).toInt8.toInt32).toInt64)))) else (if s_lane = (1 : Int32) then sx_gd (sx_ib a1 24) ((some ((vp_updL s_items (a1).toNatClampNeg (((a2).toInt32).toInt16.toInt32).toInt64)))) else (if s_lane = (2 : Int32) then sx_gd (sx_ib a1 24) ((some ((vp_updL s_items (a1).toNatClampNeg ((a2).toInt32).toInt64)))) else sx_gd (sx_ib a1 24) ((some ((vp_updL s_items (a1).toNatClampNeg a2)))))))
set_option maxHeartbeats 4000000 in
set_option maxRecDepth 100000 in
theorem kwX2_put {p : Program} {l : Launch} {e : Env} {R : Room} {s : State} {m : MethodId} {args : Array Value} {below : List Frame} {meth : Method} {c : Code} {cells slots : Nat} {Q : State → Prop} {A : Nat → Prop} {H0 : Heap} {D : va_G} {cI cJ cS : ClassId} (hx : p.tables.exec = Jvm.exec) (hb : c.code = cX2_put) (hml : c.maxLocals = 4) (hown : s.vm.findClass RX2 = some m.cls) (hts : ∀ w ∈ wsX2_put, w.before args s = true) (hN : sx_N s) (hK : va_K D vwCl (sx_T cI cJ cS) s) (hA : ∀ q, H0.size ≤ q → A q) (hRf : 0 ≤ R.frames) (hRl : 0 ≤ R.locals) (hRc : cells ≤ R.cells ∧ slots ≤ R.slots) (s_h s_items_a : Nat) (s_items : Nat → Int64) (s_lane : Int32) (s_length : Int32) (a1 : Int32) (a2 : Int64) (F : Nat) (w_s_items : Nat → Int64) (hM : fnX2_put F s_items s_lane a1 a2 = some w_s_items) (H : Heap) (locs : List Loc) (ls : Array Slot) (hl : lv_has ls 4 [(0, .ref s_h), (1, .int a1), (2, .long a2)]) (hP : va_P D vwCl [(s_h, .inr (2, [.ref s_items_a, .int s_lane, .int s_length])), (s_items_a, .inl (cJ, 24, .inr (.inl s_items)))] H) (hD : va_D A [(s_h, .inr (2, [.ref s_items_a, .int s_lane, .int s_length])), (s_items_a, .inl (cJ, 24, .inr (.inl s_items)))]) (hS : va_S A H0 H locs)
    (hret : ∀ (H1 : Heap) (locs1 : List Loc) (ls1 : Array Slot) (pc1 : Nat), decode cX2_put pc1 = .ok (.return_, 1) → va_P D vwCl [(s_h, .inr (2, [.ref s_items_a, .int s_lane, .int s_length])), (s_items_a, .inl (cJ, 24, .inr (.inl w_s_items)))] H1 → va_D A [(s_h, .inr (2, [.ref s_items_a, .int s_lane, .int s_length])), (s_items_a, .inl (cJ, 24, .inr (.inl w_s_items)))] → va_S A H0 H1 locs1 → W p l e R s m args below meth c H1 locs1 cells slots Q (F0 m pc1 ls1 [])) : W p l e R s m args below meth c H locs cells slots Q (F0 m 0 ls []) := by
  have hf_9 := hts (.fieldLink RX2 9 "SealedLips$Sheet" "items" "[J") (by decide +kernel)
  have hf_15 := hts (.fieldLink RX2 15 "SealedLips$Sheet" "lane" "I") (by decide +kernel)
  have hin_X2 : ∀ w ∈ wsX20, w ∈ wsX2_put := by decide +kernel
  unfold fnX2_put at hM
  refine lv_aload_n hx hb dX2_put_0 rfl (lv_at hl 0 rfl) ?_
  refine va_get (D := D) (ci := 2) (v := .int s_lane) (C := RX2) (T := TX2) (N := 3) hx hb hts hin_X2 hown hK hP 0 rfl rfl 1 (by decide) hf_15 (fun _ h9 => h9) rfl dX2_put_1 ?_
  by_cases c1 : s_lane = (0 : Int32)
  · replace hM := sx_ift c1 hM
    refine lv_tableIn (off := 28) (tgt := 32) hx hb dX2_put_4 (by rw [c1]; decide) (by rw [c1]; decide) (by rw [c1]; decide) (by decide) ?_
    refine lv_aload_n hx hb dX2_put_32 rfl (lv_at hl 0 rfl) ?_
    refine va_get (D := D) (ci := 2) (v := .ref s_items_a) (C := RX2) (T := TX2) (N := 3) hx hb hts hin_X2 hown hK hP 0 rfl rfl 0 (by decide) hf_9 (fun _ h9 => h9) rfl dX2_put_33 ?_
    refine lv_iload_n hx hb dX2_put_36 rfl (lv_at hl 1 rfl) ?_
    refine lv_lload_n hx hb dX2_put_37 rfl (lv_at hl 2 rfl) ?_
    refine lv_l2i hx hb dX2_put_38 rfl ?_
    refine lv_i2b hx hb dX2_put_39 rfl ?_
    refine lv_i2l hx hb dX2_put_40 rfl ?_
    obtain ⟨g2, hM⟩ := sx_gd_s hM
    refine va_last hx hb hK hP hD hS 1 1 rfl rfl (sx_ib_s g2) dX2_put_41 (fun H locs hP hD hS => ?_)
    have hP : va_P D vwCl [(s_h, .inr (2, [.ref s_items_a, .int s_lane, .int s_length])), (s_items_a, .inl (cJ, 24, .inr (.inl (vp_updL s_items (a1).toNatClampNeg (((a2).toInt32).toInt8.toInt32).toInt64))))] H := hP
    have hD : va_D A [(s_h, .inr (2, [.ref s_items_a, .int s_lane, .int s_length])), (s_items_a, .inl (cJ, 24, .inr (.inl (vp_updL s_items (a1).toNatClampNeg (((a2).toInt32).toInt8.toInt32).toInt64))))] := hD
    refine lv_goto (tgt := 77) hx hb dX2_put_42 (by decide) ?_
    obtain rfl := sx_o1 hM
    exact hret _ _ _ _ dX2_put_77 (hP.sub [0, 1] rfl) (hD.sub [0, 1] (by decide) rfl) hS
  · replace hM := sx_iff c1 hM
    have c1t : ¬ s_lane.toInt = 0 := fun h => c1 (Int32.toInt_inj.mp (h.trans (by decide)))
    by_cases c3 : s_lane = (1 : Int32)
    · replace hM := sx_ift c3 hM
      refine lv_tableIn (off := 41) (tgt := 45) hx hb dX2_put_4 (by rw [c3]; decide) (by rw [c3]; decide) (by rw [c3]; decide) (by decide) ?_
      refine lv_aload_n hx hb dX2_put_45 rfl (lv_at hl 0 rfl) ?_
      refine va_get (D := D) (ci := 2) (v := .ref s_items_a) (C := RX2) (T := TX2) (N := 3) hx hb hts hin_X2 hown hK hP 0 rfl rfl 0 (by decide) hf_9 (fun _ h9 => h9) rfl dX2_put_46 ?_
      refine lv_iload_n hx hb dX2_put_49 rfl (lv_at hl 1 rfl) ?_
      refine lv_lload_n hx hb dX2_put_50 rfl (lv_at hl 2 rfl) ?_
      refine lv_l2i hx hb dX2_put_51 rfl ?_
      refine lv_i2s hx hb dX2_put_52 rfl ?_
      refine lv_i2l hx hb dX2_put_53 rfl ?_
      obtain ⟨g4, hM⟩ := sx_gd_s hM
      refine va_last hx hb hK hP hD hS 1 1 rfl rfl (sx_ib_s g4) dX2_put_54 (fun H locs hP hD hS => ?_)
      have hP : va_P D vwCl [(s_h, .inr (2, [.ref s_items_a, .int s_lane, .int s_length])), (s_items_a, .inl (cJ, 24, .inr (.inl (vp_updL s_items (a1).toNatClampNeg (((a2).toInt32).toInt16.toInt32).toInt64))))] H := hP
      have hD : va_D A [(s_h, .inr (2, [.ref s_items_a, .int s_lane, .int s_length])), (s_items_a, .inl (cJ, 24, .inr (.inl (vp_updL s_items (a1).toNatClampNeg (((a2).toInt32).toInt16.toInt32).toInt64))))] := hD
      refine lv_goto (tgt := 77) hx hb dX2_put_55 (by decide) ?_
      obtain rfl := sx_o1 hM
      exact hret _ _ _ _ dX2_put_77 (hP.sub [0, 1] rfl) (hD.sub [0, 1] (by decide) rfl) hS
    · replace hM := sx_iff c3 hM
      have c3t : ¬ s_lane.toInt = 1 := fun h => c3 (Int32.toInt_inj.mp (h.trans (by decide)))
      by_cases c5 : s_lane = (2 : Int32)
      · replace hM := sx_ift c5 hM
        refine lv_tableIn (off := 54) (tgt := 58) hx hb dX2_put_4 (by rw [c5]; decide) (by rw [c5]; decide) (by rw [c5]; decide) (by decide) ?_
        refine lv_aload_n hx hb dX2_put_58 rfl (lv_at hl 0 rfl) ?_
        refine va_get (D := D) (ci := 2) (v := .ref s_items_a) (C := RX2) (T := TX2) (N := 3) hx hb hts hin_X2 hown hK hP 0 rfl rfl 0 (by decide) hf_9 (fun _ h9 => h9) rfl dX2_put_59 ?_
        refine lv_iload_n hx hb dX2_put_62 rfl (lv_at hl 1 rfl) ?_
        refine lv_lload_n hx hb dX2_put_63 rfl (lv_at hl 2 rfl) ?_
        refine lv_l2i hx hb dX2_put_64 rfl ?_
        refine lv_i2l hx hb dX2_put_65 rfl ?_
        obtain ⟨g6, hM⟩ := sx_gd_s hM
        refine va_last hx hb hK hP hD hS 1 1 rfl rfl (sx_ib_s g6) dX2_put_66 (fun H locs hP hD hS => ?_)
        have hP : va_P D vwCl [(s_h, .inr (2, [.ref s_items_a, .int s_lane, .int s_length])), (s_items_a, .inl (cJ, 24, .inr (.inl (vp_updL s_items (a1).toNatClampNeg ((a2).toInt32).toInt64))))] H := hP
        have hD : va_D A [(s_h, .inr (2, [.ref s_items_a, .int s_lane, .int s_length])), (s_items_a, .inl (cJ, 24, .inr (.inl (vp_updL s_items (a1).toNatClampNeg ((a2).toInt32).toInt64))))] := hD
        refine lv_goto (tgt := 77) hx hb dX2_put_67 (by decide) ?_
        obtain rfl := sx_o1 hM
        exact hret _ _ _ _ dX2_put_77 (hP.sub [0, 1] rfl) (hD.sub [0, 1] (by decide) rfl) hS
      · replace hM := sx_iff c5 hM
        have c5t : ¬ s_lane.toInt = 2 := fun h => c5 (Int32.toInt_inj.mp (h.trans (by decide)))
        refine lv_tableOut (tgt := 70) hx hb dX2_put_4 (by omega) (by decide) ?_
        refine lv_aload_n hx hb dX2_put_70 rfl (lv_at hl 0 rfl) ?_
        refine va_get (D := D) (ci := 2) (v := .ref s_items_a) (C := RX2) (T := TX2) (N := 3) hx hb hts hin_X2 hown hK hP 0 rfl rfl 0 (by decide) hf_9 (fun _ h9 => h9) rfl dX2_put_71 ?_
        refine lv_iload_n hx hb dX2_put_74 rfl (lv_at hl 1 rfl) ?_
        refine lv_lload_n hx hb dX2_put_75 rfl (lv_at hl 2 rfl) ?_
        obtain ⟨g7, hM⟩ := sx_gd_s hM
        refine va_last hx hb hK hP hD hS 1 1 rfl rfl (sx_ib_s g7) dX2_put_76 (fun H locs hP hD hS => ?_)
        have hP : va_P D vwCl [(s_h, .inr (2, [.ref s_items_a, .int s_lane, .int s_length])), (s_items_a, .inl (cJ, 24, .inr (.inl (vp_updL s_items (a1).toNatClampNeg a2))))] H := hP
        have hD : va_D A [(s_h, .inr (2, [.ref s_items_a, .int s_lane, .int s_length])), (s_items_a, .inl (cJ, 24, .inr (.inl (vp_updL s_items (a1).toNatClampNeg a2))))] := hD
        obtain rfl := sx_o1 hM
        exact hret _ _ _ _ dX2_put_77 (hP.sub [0, 1] rfl) (hD.sub [0, 1] (by decide) rfl) hS
set_option maxHeartbeats 4000000 in
set_option maxRecDepth 100000 in
theorem mtX2_put (l : Launch) (D : va_G) (cI cJ cS : ClassId) (sz : Nat) (s_h s_items_a : Nat) (s_items : Nat → Int64) (s_lane : Int32) (s_length : Int32) (a1 : Int32) (a2 : Int64) (F : Nat) (w_s_items : Nat → Int64) (hM : fnX2_put F s_items s_lane a1 a2 = some w_s_items) : sx_MV l yX2_put wsX2_put ({ frames := 0, cells := 0, slots := 0, locals := 0 }) D (sx_T cI cJ cS) sz [.ref s_h, .int a1, .long a2] [(s_h, .inr (2, [.ref s_items_a, .int s_lane, .int s_length])), (s_items_a, .inl (cJ, 24, .inr (.inl s_items)))] [(s_h, .inr (2, [.ref s_items_a, .int s_lane, .int s_length])), (s_items_a, .inl (cJ, 24, .inr (.inl w_s_items)))] := by
  refine Met.ofW (cc := cX2_put) (maxL := 4) (ret := none) (by decide) rfl ?_
  intro p e s m args below meth c s₁ B hml hv
  obtain ⟨rfl, hsz, hN, hP, hK, hD0⟩ := hv
  subst hsz
  have hl := lv_entry ([.ref s_h, .int a1, .long a2]) (n := 4) (Nat.le_of_ble_eq_true rfl)
  rw [lg_entry_eq]
  generalize (lg_sl ([.ref s_h, .int a1, .long a2]) ++ List.replicate (4 - (lg_sl ([.ref s_h, .int a1, .long a2])).length) Slot.unset).toArray = ls at hl ⊢
  exact kwX2_put B.exec B.bytes hml (findClass_of_methodNamed B.named) (atoms_spec (ws := wsX2_put) B.pre) hN hK (fun q h => Or.inr h) (by decide) (by decide) ⟨Nat.zero_le _, Nat.zero_le _⟩ s_h s_items_a s_items s_lane s_length a1 a2 F w_s_items hM _ _ _ hl hP hD0.self va_S.rf (fun H1 locs1 ls1 pc1 hd hP hD hS => W.vret B.exec B.bytes B.returns (fun t ht hW => ⟨⟨(), rfl, trivial, by rw [ht]; exact hP, hD⟩, hS.F ht⟩) hS.2.2 hd)

def fnX3_append (F : Nat) (t_letters : Nat → Int32) (t_length : Int32) (a1 : Int32) : Option (Int32 × (Nat → Int32) × Int32) :=
  sx_gd (sx_ib t_length 70) ((some ((t_length + (1 : Int32)), (upd t_letters (t_length).toNatClampNeg a1), (t_length + (1 : Int32)))))
set_option maxHeartbeats 4000000 in
set_option maxRecDepth 100000 in
theorem kwX3_append {p : Program} {l : Launch} {e : Env} {R : Room} {s : State} {m : MethodId} {args : Array Value} {below : List Frame} {meth : Method} {c : Code} {cells slots : Nat} {Q : State → Prop} {A : Nat → Prop} {H0 : Heap} {D : va_G} {cI cJ cS : ClassId} (hx : p.tables.exec = Jvm.exec) (hb : c.code = cX3_append) (hml : c.maxLocals = 2) (hown : s.vm.findClass RX3 = some m.cls) (hts : ∀ w ∈ wsX3_append, w.before args s = true) (hN : sx_N s) (hK : va_K D vwCl (sx_T cI cJ cS) s) (hA : ∀ q, H0.size ≤ q → A q) (hRf : 0 ≤ R.frames) (hRl : 0 ≤ R.locals) (hRc : cells ≤ R.cells ∧ slots ≤ R.slots) (t_h t_letters_a : Nat) (t_letters : Nat → Int32) (t_length : Int32) (t_at : Int32) (a1 : Int32) (F : Nat) (r0 : Int32) (w_t_letters : Nat → Int32) (w_t_length : Int32) (hM : fnX3_append F t_letters t_length a1 = some (r0, w_t_letters, w_t_length)) (H : Heap) (locs : List Loc) (ls : Array Slot) (hl : lv_has ls 2 [(0, .ref t_h), (1, .int a1)]) (hP : va_P D vwCl [(t_h, .inr (3, [.ref t_letters_a, .int t_length, .int t_at])), (t_letters_a, .inl (cI, 70, .inl t_letters))] H) (hD : va_D A [(t_h, .inr (3, [.ref t_letters_a, .int t_length, .int t_at])), (t_letters_a, .inl (cI, 70, .inl t_letters))]) (hS : va_S A H0 H locs)
    (hret : ∀ (H1 : Heap) (locs1 : List Loc) (ls1 : Array Slot) (pc1 : Nat), decode cX3_append pc1 = .ok (.ireturn, 1) → va_P D vwCl [(t_h, .inr (3, [.ref t_letters_a, .int w_t_length, .int t_at])), (t_letters_a, .inl (cI, 70, .inl w_t_letters))] H1 → va_D A [(t_h, .inr (3, [.ref t_letters_a, .int w_t_length, .int t_at])), (t_letters_a, .inl (cI, 70, .inl w_t_letters))] → va_S A H0 H1 locs1 → W p l e R s m args below meth c H1 locs1 cells slots Q (F0 m pc1 ls1 [.int r0])) : W p l e R s m args below meth c H locs cells slots Q (F0 m 0 ls []) := by
  have hf_9 := hts (.fieldLink RX3 9 "SealedLips$Tape" "letters" "[I") (by decide +kernel)
  have hf_15 := hts (.fieldLink RX3 15 "SealedLips$Tape" "length" "I") (by decide +kernel)
  have hin_X3 : ∀ w ∈ wsX30, w ∈ wsX3_append := by decide +kernel
  unfold fnX3_append at hM
  refine lv_aload_n hx hb dX3_append_0 rfl (lv_at hl 0 rfl) ?_
  refine va_get (D := D) (ci := 3) (v := .ref t_letters_a) (C := RX3) (T := TX3) (N := 3) hx hb hts hin_X3 hown hK hP 0 rfl rfl 0 (by decide) hf_9 (fun _ h9 => h9) rfl dX3_append_1 ?_
  refine lv_aload_n hx hb dX3_append_4 rfl (lv_at hl 0 rfl) ?_
  refine va_get (D := D) (ci := 3) (v := .int t_length) (C := RX3) (T := TX3) (N := 3) hx hb hts hin_X3 hown hK hP 0 rfl rfl 1 (by decide) hf_15 (fun _ h9 => h9) rfl dX3_append_5 ?_
  refine lv_iload_n hx hb dX3_append_8 rfl (lv_at hl 1 rfl) ?_
  obtain ⟨g1, hM⟩ := sx_gd_s hM
  refine va_iast hx hb hK hP hD hS 1 0 rfl rfl (sx_ib_s g1) dX3_append_9 (fun H locs hP hD hS => ?_)
  have hP : va_P D vwCl [(t_h, .inr (3, [.ref t_letters_a, .int t_length, .int t_at])), (t_letters_a, .inl (cI, 70, .inl (upd t_letters (t_length).toNatClampNeg a1)))] H := hP
  have hD : va_D A [(t_h, .inr (3, [.ref t_letters_a, .int t_length, .int t_at])), (t_letters_a, .inl (cI, 70, .inl (upd t_letters (t_length).toNatClampNeg a1)))] := hD
  refine lv_aload_n hx hb dX3_append_10 rfl (lv_at hl 0 rfl) ?_
  refine lv_dup hx hb dX3_append_11 rfl ?_
  refine va_get (D := D) (ci := 3) (v := .int t_length) (C := RX3) (T := TX3) (N := 3) hx hb hts hin_X3 hown hK hP 0 rfl rfl 1 (by decide) hf_15 (fun _ h9 => h9) rfl dX3_append_12 ?_
  refine lv_iconst (v := 1) hx hb dX3_append_15 (by decide) ?_
  refine lv_iadd hx hb dX3_append_16 ?_
  refine va_put (D := D) (ci := 3) (v := .int (t_length + (1 : Int32))) (ty := .int) (C := RX3) (T := TX3) (N := 3) hx hb hts hin_X3 tyX3 tyX3_ok nmX3 hown hK hP hD hS 0 rfl rfl 1 (by decide) hf_15 (fun _ h9 => h9) rfl (tyX3_ok 1 (by decide)) rfl rfl (Nat.le_of_ble_eq_true rfl) dX3_append_17 (fun H locs hP hD hS => ?_)
  have hP : va_P D vwCl [(t_h, .inr (3, [.ref t_letters_a, .int (t_length + (1 : Int32)), .int t_at])), (t_letters_a, .inl (cI, 70, .inl (upd t_letters (t_length).toNatClampNeg a1)))] H := hP
  have hD : va_D A [(t_h, .inr (3, [.ref t_letters_a, .int (t_length + (1 : Int32)), .int t_at])), (t_letters_a, .inl (cI, 70, .inl (upd t_letters (t_length).toNatClampNeg a1)))] := hD
  refine lv_aload_n hx hb dX3_append_20 rfl (lv_at hl 0 rfl) ?_
  refine va_get (D := D) (ci := 3) (v := .int (t_length + (1 : Int32))) (C := RX3) (T := TX3) (N := 3) hx hb hts hin_X3 hown hK hP 0 rfl rfl 1 (by decide) hf_15 (fun _ h9 => h9) rfl dX3_append_21 ?_
  obtain ⟨rfl, rfl, rfl⟩ := sx_o3 hM
  exact hret _ _ _ _ dX3_append_24 (hP.sub [0, 1] rfl) (hD.sub [0, 1] (by decide) rfl) hS
set_option maxHeartbeats 4000000 in
set_option maxRecDepth 100000 in
theorem mtX3_append (l : Launch) (D : va_G) (cI cJ cS : ClassId) (sz : Nat) (t_h t_letters_a : Nat) (t_letters : Nat → Int32) (t_length : Int32) (t_at : Int32) (a1 : Int32) (F : Nat) (r0 : Int32) (w_t_letters : Nat → Int32) (w_t_length : Int32) (hM : fnX3_append F t_letters t_length a1 = some (r0, w_t_letters, w_t_length)) : sx_MI l yX3_append wsX3_append ({ frames := 0, cells := 0, slots := 0, locals := 0 }) D (sx_T cI cJ cS) sz [.ref t_h, .int a1] [(t_h, .inr (3, [.ref t_letters_a, .int t_length, .int t_at])), (t_letters_a, .inl (cI, 70, .inl t_letters))] r0 [(t_h, .inr (3, [.ref t_letters_a, .int w_t_length, .int t_at])), (t_letters_a, .inl (cI, 70, .inl w_t_letters))] := by
  refine Met.ofW (cc := cX3_append) (maxL := 2) (ret := (some .int)) (by decide) rfl ?_
  intro p e s m args below meth c s₁ B hml hv
  obtain ⟨rfl, hsz, hN, hP, hK, hD0⟩ := hv
  subst hsz
  have hl := lv_entry ([.ref t_h, .int a1]) (n := 2) (Nat.le_of_ble_eq_true rfl)
  rw [lg_entry_eq]
  generalize (lg_sl ([.ref t_h, .int a1]) ++ List.replicate (2 - (lg_sl ([.ref t_h, .int a1])).length) Slot.unset).toArray = ls at hl ⊢
  exact kwX3_append B.exec B.bytes hml (findClass_of_methodNamed B.named) (atoms_spec (ws := wsX3_append) B.pre) hN hK (fun q h => Or.inr h) (by decide) (by decide) ⟨Nat.zero_le _, Nat.zero_le _⟩ t_h t_letters_a t_letters t_length t_at a1 F r0 w_t_letters w_t_length hM _ _ _ hl hP hD0.self va_S.rf (fun H1 locs1 ls1 pc1 hd hP hD hS => W.iret (v := r0) B.exec B.bytes B.returns (fun t ht hW => ⟨⟨r0, (), rfl, rfl, by rw [ht]; exact hP, hD⟩, hS.F ht⟩) hS.2.2 hd)

def bdX3_peek_0 (F : Nat) (t_letters : Nat → Int32) (t_length : Int32) (kf_38 : Int32 → Option (Int32 × Int32)) (r_ : Int32 → Option (Int32 × Int32)) (t_at : Int32) : Option (Int32 × Int32) :=
  (if t_length ≤ t_at then (kf_38 t_at) else sx_gd (sx_ib t_at 70) ((if (t_letters (t_at).toNatClampNeg) = (32 : Int32) then (r_ (t_at + (1 : Int32))) else (kf_38 t_at))))
def fnX3_peek (F : Nat) (t_letters : Nat → Int32) (t_length : Int32) (t_at : Int32) : Option (Int32 × Int32) :=
  sx_lt (fun (z1 : Int32) => (if t_length ≤ z1 then (some ((0 : Int32), z1)) else sx_gd (sx_ib z1 70) ((some ((t_letters (z1).toNatClampNeg), z1))))) (fun (k_38 : Int32 → Option (Int32 × Int32)) => sx_lp1 (bdX3_peek_0 F t_letters t_length k_38) F t_at)
set_option maxHeartbeats 4000000 in
set_option maxRecDepth 100000 in
theorem kwX3_peek {p : Program} {l : Launch} {e : Env} {R : Room} {s : State} {m : MethodId} {args : Array Value} {below : List Frame} {meth : Method} {c : Code} {cells slots : Nat} {Q : State → Prop} {A : Nat → Prop} {H0 : Heap} {D : va_G} {cI cJ cS : ClassId} (hx : p.tables.exec = Jvm.exec) (hb : c.code = cX3_peek) (hml : c.maxLocals = 1) (hown : s.vm.findClass RX3 = some m.cls) (hts : ∀ w ∈ wsX3_peek, w.before args s = true) (hN : sx_N s) (hK : va_K D vwCl (sx_T cI cJ cS) s) (hA : ∀ q, H0.size ≤ q → A q) (hRf : 0 ≤ R.frames) (hRl : 0 ≤ R.locals) (hRc : cells ≤ R.cells ∧ slots ≤ R.slots) (t_h t_letters_a : Nat) (t_letters : Nat → Int32) (t_length : Int32) (t_at : Int32) (F : Nat) (r0 : Int32) (w_t_at : Int32) (hM : fnX3_peek F t_letters t_length t_at = some (r0, w_t_at)) (H : Heap) (locs : List Loc) (ls : Array Slot) (hl : lv_has ls 1 [(0, .ref t_h)]) (hP : va_P D vwCl [(t_h, .inr (3, [.ref t_letters_a, .int t_length, .int t_at])), (t_letters_a, .inl (cI, 70, .inl t_letters))] H) (hD : va_D A [(t_h, .inr (3, [.ref t_letters_a, .int t_length, .int t_at])), (t_letters_a, .inl (cI, 70, .inl t_letters))]) (hS : va_S A H0 H locs)
    (hret : ∀ (H1 : Heap) (locs1 : List Loc) (ls1 : Array Slot) (pc1 : Nat), decode cX3_peek pc1 = .ok (.ireturn, 1) → va_P D vwCl [(t_h, .inr (3, [.ref t_letters_a, .int t_length, .int w_t_at])), (t_letters_a, .inl (cI, 70, .inl t_letters))] H1 → va_D A [(t_h, .inr (3, [.ref t_letters_a, .int t_length, .int w_t_at])), (t_letters_a, .inl (cI, 70, .inl t_letters))] → va_S A H0 H1 locs1 → W p l e R s m args below meth c H1 locs1 cells slots Q (F0 m pc1 ls1 [.int r0])) : W p l e R s m args below meth c H locs cells slots Q (F0 m 0 ls []) := by
  have hf_9 := hts (.fieldLink RX3 9 "SealedLips$Tape" "letters" "[I") (by decide +kernel)
  have hf_15 := hts (.fieldLink RX3 15 "SealedLips$Tape" "length" "I") (by decide +kernel)
  have hf_19 := hts (.fieldLink RX3 19 "SealedLips$Tape" "at" "I") (by decide +kernel)
  have hin_X3 : ∀ w ∈ wsX30, w ∈ wsX3_peek := by decide +kernel
  unfold fnX3_peek at hM
  obtain ⟨k_38, ek_38, hM⟩ := sx_lt_s hM
  have hk_38 : ∀ (z1 : Int32) (H : Heap) (locs : List Loc) (ls : Array Slot), k_38 z1 = some (r0, w_t_at) → lv_has ls 1 [(0, .ref t_h)] → va_P D vwCl [(t_h, .inr (3, [.ref t_letters_a, .int t_length, .int z1])), (t_letters_a, .inl (cI, 70, .inl t_letters))] H → va_D A [(t_h, .inr (3, [.ref t_letters_a, .int t_length, .int z1])), (t_letters_a, .inl (cI, 70, .inl t_letters))] → va_S A H0 H locs → W p l e R s m args below meth c H locs cells slots Q (F0 m 38 ls ([])) := by
    intro z1 H locs ls hM hl hP hD hS
    rw [ek_38] at hM
    refine lv_aload_n hx hb dX3_peek_38 rfl (lv_at hl 0 rfl) ?_
    refine va_get (D := D) (ci := 3) (v := .int z1) (C := RX3) (T := TX3) (N := 3) hx hb hts hin_X3 hown hK hP 0 rfl rfl 2 (by decide) hf_19 (fun _ h9 => h9) rfl dX3_peek_39 ?_
    refine lv_aload_n hx hb dX3_peek_42 rfl (lv_at hl 0 rfl) ?_
    refine va_get (D := D) (ci := 3) (v := .int t_length) (C := RX3) (T := TX3) (N := 3) hx hb hts hin_X3 hown hK hP 0 rfl rfl 1 (by decide) hf_15 (fun _ h9 => h9) rfl dX3_peek_43 ?_
    refine lv_icmp_ge (tgt := 61) hx hb dX3_peek_46 (by decide) (fun c2 => ?_) (fun c2 => ?_)
    · replace hM := sx_ift c2 hM
      refine lv_iconst (v := 0) hx hb dX3_peek_61 (by decide) ?_
      obtain ⟨rfl, rfl⟩ := sx_o2 hM
      exact hret _ _ _ _ dX3_peek_62 (hP.sub [0, 1] rfl) (hD.sub [0, 1] (by decide) rfl) hS
    · replace hM := sx_iff c2 hM
      refine lv_aload_n hx hb dX3_peek_49 rfl (lv_at hl 0 rfl) ?_
      refine va_get (D := D) (ci := 3) (v := .ref t_letters_a) (C := RX3) (T := TX3) (N := 3) hx hb hts hin_X3 hown hK hP 0 rfl rfl 0 (by decide) hf_9 (fun _ h9 => h9) rfl dX3_peek_50 ?_
      refine lv_aload_n hx hb dX3_peek_53 rfl (lv_at hl 0 rfl) ?_
      refine va_get (D := D) (ci := 3) (v := .int z1) (C := RX3) (T := TX3) (N := 3) hx hb hts hin_X3 hown hK hP 0 rfl rfl 2 (by decide) hf_19 (fun _ h9 => h9) rfl dX3_peek_54 ?_
      obtain ⟨g3, hM⟩ := sx_gd_s hM
      refine va_iald hx hb hK hP 1 0 rfl rfl (sx_ib_s g3) dX3_peek_57 ?_
      refine lv_goto (tgt := 62) hx hb dX3_peek_58 (by decide) ?_
      obtain ⟨rfl, rfl⟩ := sx_o2 hM
      exact hret _ _ _ _ dX3_peek_62 (hP.sub [0, 1] rfl) (hD.sub [0, 1] (by decide) rfl) hS
  have lp_0 : ∀ (n : Nat) (z4 : Int32) (H : Heap) (locs : List Loc) (ls : Array Slot), sx_lp1 (bdX3_peek_0 F t_letters t_length k_38) n z4 = some (r0, w_t_at) → lv_has ls 1 [(0, .ref t_h)] → va_P D vwCl [(t_h, .inr (3, [.ref t_letters_a, .int t_length, .int z4])), (t_letters_a, .inl (cI, 70, .inl t_letters))] H → va_D A [(t_h, .inr (3, [.ref t_letters_a, .int t_length, .int z4])), (t_letters_a, .inl (cI, 70, .inl t_letters))] → va_S A H0 H locs → W p l e R s m args below meth c H locs cells slots Q (F0 m 0 ls ([])) := by
    intro n
    induction n with
    | zero => intro z4 H locs ls hM; exact (sx_lp1_0 hM).elim
    | succ n ih =>
      intro z4 H locs ls hM hl hP hD hS
      have hM : bdX3_peek_0 F t_letters t_length k_38 (sx_lp1 (bdX3_peek_0 F t_letters t_length k_38) n) z4 = some (r0, w_t_at) := hM
      generalize sx_lp1 (bdX3_peek_0 F t_letters t_length k_38) n = r_0 at hM ih
      unfold bdX3_peek_0 at hM
      refine lv_aload_n hx hb dX3_peek_0 rfl (lv_at hl 0 rfl) ?_
      refine va_get (D := D) (ci := 3) (v := .int z4) (C := RX3) (T := TX3) (N := 3) hx hb hts hin_X3 hown hK hP 0 rfl rfl 2 (by decide) hf_19 (fun _ h9 => h9) rfl dX3_peek_1 ?_
      refine lv_aload_n hx hb dX3_peek_4 rfl (lv_at hl 0 rfl) ?_
      refine va_get (D := D) (ci := 3) (v := .int t_length) (C := RX3) (T := TX3) (N := 3) hx hb hts hin_X3 hown hK hP 0 rfl rfl 1 (by decide) hf_15 (fun _ h9 => h9) rfl dX3_peek_5 ?_
      refine lv_icmp_ge (tgt := 38) hx hb dX3_peek_8 (by decide) (fun c5 => ?_) (fun c5 => ?_)
      · replace hM := sx_ift c5 hM
        exact hk_38 z4 _ _ _ hM (lv_sub hl [0] rfl) (hP.sub [0, 1] rfl) (hD.sub [0, 1] (by decide) rfl) hS
      · replace hM := sx_iff c5 hM
        refine lv_aload_n hx hb dX3_peek_11 rfl (lv_at hl 0 rfl) ?_
        refine va_get (D := D) (ci := 3) (v := .ref t_letters_a) (C := RX3) (T := TX3) (N := 3) hx hb hts hin_X3 hown hK hP 0 rfl rfl 0 (by decide) hf_9 (fun _ h9 => h9) rfl dX3_peek_12 ?_
        refine lv_aload_n hx hb dX3_peek_15 rfl (lv_at hl 0 rfl) ?_
        refine va_get (D := D) (ci := 3) (v := .int z4) (C := RX3) (T := TX3) (N := 3) hx hb hts hin_X3 hown hK hP 0 rfl rfl 2 (by decide) hf_19 (fun _ h9 => h9) rfl dX3_peek_16 ?_
        obtain ⟨g6, hM⟩ := sx_gd_s hM
        refine va_iald hx hb hK hP 1 0 rfl rfl (sx_ib_s g6) dX3_peek_19 ?_
        refine lv_bipush (v := 32) hx hb dX3_peek_20 (by decide) ?_
        refine lv_icmp_ne (tgt := 38) hx hb dX3_peek_22 (by decide) (fun c7 => ?_) (fun c7 => ?_)
        · replace hM := sx_iff c7 hM
          exact hk_38 z4 _ _ _ hM (lv_sub hl [0] rfl) (hP.sub [0, 1] rfl) (hD.sub [0, 1] (by decide) rfl) hS
        · replace hM := sx_ift c7 hM
          refine lv_aload_n hx hb dX3_peek_25 rfl (lv_at hl 0 rfl) ?_
          refine lv_dup hx hb dX3_peek_26 rfl ?_
          refine va_get (D := D) (ci := 3) (v := .int z4) (C := RX3) (T := TX3) (N := 3) hx hb hts hin_X3 hown hK hP 0 rfl rfl 2 (by decide) hf_19 (fun _ h9 => h9) rfl dX3_peek_27 ?_
          refine lv_iconst (v := 1) hx hb dX3_peek_30 (by decide) ?_
          refine lv_iadd hx hb dX3_peek_31 ?_
          refine va_put (D := D) (ci := 3) (v := .int (z4 + (1 : Int32))) (ty := .int) (C := RX3) (T := TX3) (N := 3) hx hb hts hin_X3 tyX3 tyX3_ok nmX3 hown hK hP hD hS 0 rfl rfl 2 (by decide) hf_19 (fun _ h9 => h9) rfl (tyX3_ok 2 (by decide)) rfl rfl (Nat.le_of_ble_eq_true rfl) dX3_peek_32 (fun H locs hP hD hS => ?_)
          have hP : va_P D vwCl [(t_h, .inr (3, [.ref t_letters_a, .int t_length, .int (z4 + (1 : Int32))])), (t_letters_a, .inl (cI, 70, .inl t_letters))] H := hP
          have hD : va_D A [(t_h, .inr (3, [.ref t_letters_a, .int t_length, .int (z4 + (1 : Int32))])), (t_letters_a, .inl (cI, 70, .inl t_letters))] := hD
          refine lv_goto (tgt := 0) hx hb dX3_peek_35 (by decide) ?_
          exact ih (z4 + (1 : Int32)) _ _ _ hM (lv_sub hl [0] rfl) (hP.sub [0, 1] rfl) (hD.sub [0, 1] (by decide) rfl) hS
  exact lp_0 F t_at _ _ _ hM (lv_sub hl [0] rfl) (hP.sub [0, 1] rfl) (hD.sub [0, 1] (by decide) rfl) hS
set_option maxHeartbeats 4000000 in
set_option maxRecDepth 100000 in
theorem mtX3_peek (l : Launch) (D : va_G) (cI cJ cS : ClassId) (sz : Nat) (t_h t_letters_a : Nat) (t_letters : Nat → Int32) (t_length : Int32) (t_at : Int32) (F : Nat) (r0 : Int32) (w_t_at : Int32) (hM : fnX3_peek F t_letters t_length t_at = some (r0, w_t_at)) : sx_MI l yX3_peek wsX3_peek ({ frames := 0, cells := 0, slots := 0, locals := 0 }) D (sx_T cI cJ cS) sz [.ref t_h] [(t_h, .inr (3, [.ref t_letters_a, .int t_length, .int t_at])), (t_letters_a, .inl (cI, 70, .inl t_letters))] r0 [(t_h, .inr (3, [.ref t_letters_a, .int t_length, .int w_t_at])), (t_letters_a, .inl (cI, 70, .inl t_letters))] := by
  refine Met.ofW (cc := cX3_peek) (maxL := 1) (ret := (some .int)) (by decide) rfl ?_
  intro p e s m args below meth c s₁ B hml hv
  obtain ⟨rfl, hsz, hN, hP, hK, hD0⟩ := hv
  subst hsz
  have hl := lv_entry ([.ref t_h]) (n := 1) (Nat.le_of_ble_eq_true rfl)
  rw [lg_entry_eq]
  generalize (lg_sl ([.ref t_h]) ++ List.replicate (1 - (lg_sl ([.ref t_h])).length) Slot.unset).toArray = ls at hl ⊢
  exact kwX3_peek B.exec B.bytes hml (findClass_of_methodNamed B.named) (atoms_spec (ws := wsX3_peek) B.pre) hN hK (fun q h => Or.inr h) (by decide) (by decide) ⟨Nat.zero_le _, Nat.zero_le _⟩ t_h t_letters_a t_letters t_length t_at F r0 w_t_at hM _ _ _ hl hP hD0.self va_S.rf (fun H1 locs1 ls1 pc1 hd hP hD hS => W.iret (v := r0) B.exec B.bytes B.returns (fun t ht hW => ⟨⟨r0, (), rfl, rfl, by rw [ht]; exact hP, hD⟩, hS.F ht⟩) hS.2.2 hd)

def fnX4_within (F : Nat) (a1 : Int32) (a2 : Int32) (a3 : Int32) : Option (Int32) :=
  (if a1 < a2 then (some ((0 : Int32))) else (if a3 < a1 then (some ((0 : Int32))) else (some ((1 : Int32)))))
set_option maxHeartbeats 4000000 in
set_option maxRecDepth 100000 in
theorem kwX4_within {p : Program} {l : Launch} {e : Env} {R : Room} {s : State} {m : MethodId} {args : Array Value} {below : List Frame} {meth : Method} {c : Code} {cells slots : Nat} {Q : State → Prop} {A : Nat → Prop} {H0 : Heap} {D : va_G} {cI cJ cS : ClassId} (hx : p.tables.exec = Jvm.exec) (hb : c.code = cX4_within) (hml : c.maxLocals = 3) (hown : s.vm.findClass RX4 = some m.cls) (hts : ∀ w ∈ wsX4_within, w.before args s = true) (hN : sx_N s) (hK : va_K D vwCl (sx_T cI cJ cS) s) (hA : ∀ q, H0.size ≤ q → A q) (hRf : 0 ≤ R.frames) (hRl : 0 ≤ R.locals) (hRc : cells ≤ R.cells ∧ slots ≤ R.slots) (a1 : Int32) (a2 : Int32) (a3 : Int32) (F : Nat) (r0 : Int32) (hM : fnX4_within F a1 a2 a3 = some r0) (H : Heap) (locs : List Loc) (ls : Array Slot) (hl : lv_has ls 3 [(0, .int a1), (1, .int a2), (2, .int a3)]) (hP : va_P D vwCl [] H) (hD : va_D A []) (hS : va_S A H0 H locs)
    (hret : ∀ (H1 : Heap) (locs1 : List Loc) (ls1 : Array Slot) (pc1 : Nat), decode cX4_within pc1 = .ok (.ireturn, 1) → narrow .boolean (.int r0) = .int r0 → va_P D vwCl [] H1 → va_D A [] → va_S A H0 H1 locs1 → W p l e R s m args below meth c H1 locs1 cells slots Q (F0 m pc1 ls1 [.int r0])) : W p l e R s m args below meth c H locs cells slots Q (F0 m 0 ls []) := by
  unfold fnX4_within at hM
  refine lv_iload_n hx hb dX4_within_0 rfl (lv_at hl 0 rfl) ?_
  refine lv_iload_n hx hb dX4_within_1 rfl (lv_at hl 1 rfl) ?_
  refine lv_icmp_lt (tgt := 14) hx hb dX4_within_2 (by decide) (fun c1 => ?_) (fun c1 => ?_)
  · replace hM := sx_ift c1 hM
    refine lv_iconst (v := 0) hx hb dX4_within_14 (by decide) ?_
    obtain rfl := sx_o1 hM
    exact hret _ _ _ _ dX4_within_15 rfl (hP.sub [] rfl) (hD.sub [] (by decide) rfl) hS
  · replace hM := sx_iff c1 hM
    refine lv_iload_n hx hb dX4_within_5 rfl (lv_at hl 0 rfl) ?_
    refine lv_iload_n hx hb dX4_within_6 rfl (lv_at hl 2 rfl) ?_
    refine lv_icmp_gt (tgt := 14) hx hb dX4_within_7 (by decide) (fun c2 => ?_) (fun c2 => ?_)
    · replace hM := sx_ift c2 hM
      refine lv_iconst (v := 0) hx hb dX4_within_14 (by decide) ?_
      obtain rfl := sx_o1 hM
      exact hret _ _ _ _ dX4_within_15 rfl (hP.sub [] rfl) (hD.sub [] (by decide) rfl) hS
    · replace hM := sx_iff c2 hM
      refine lv_iconst (v := 1) hx hb dX4_within_10 (by decide) ?_
      refine lv_goto (tgt := 15) hx hb dX4_within_11 (by decide) ?_
      obtain rfl := sx_o1 hM
      exact hret _ _ _ _ dX4_within_15 rfl (hP.sub [] rfl) (hD.sub [] (by decide) rfl) hS
set_option maxHeartbeats 4000000 in
set_option maxRecDepth 100000 in
theorem mtX4_within (l : Launch) (D : va_G) (cI cJ cS : ClassId) (sz : Nat) (a1 : Int32) (a2 : Int32) (a3 : Int32) (F : Nat) (r0 : Int32) (hM : fnX4_within F a1 a2 a3 = some r0) : sx_MI l yX4_within wsX4_within ({ frames := 0, cells := 0, slots := 0, locals := 0 }) D (sx_T cI cJ cS) sz [.int a1, .int a2, .int a3] [] r0 [] := by
  refine Met.ofW (cc := cX4_within) (maxL := 3) (ret := (some .boolean)) (by decide) rfl ?_
  intro p e s m args below meth c s₁ B hml hv
  obtain ⟨rfl, hsz, hN, hP, hK, hD0⟩ := hv
  subst hsz
  have hl := lv_entry ([.int a1, .int a2, .int a3]) (n := 3) (Nat.le_of_ble_eq_true rfl)
  rw [lg_entry_eq]
  generalize (lg_sl ([.int a1, .int a2, .int a3]) ++ List.replicate (3 - (lg_sl ([.int a1, .int a2, .int a3])).length) Slot.unset).toArray = ls at hl ⊢
  exact kwX4_within B.exec B.bytes hml (findClass_of_methodNamed B.named) (atoms_spec (ws := wsX4_within) B.pre) hN hK (fun q h => Or.inr h) (by decide) (by decide) ⟨Nat.zero_le _, Nat.zero_le _⟩ a1 a2 a3 F r0 hM _ _ _ hl hP hD0.self va_S.rf (fun H1 locs1 ls1 pc1 hd hz hP hD hS => W.zret (v := r0) B.exec B.bytes B.returns hz (fun t ht hW => ⟨⟨r0, (), rfl, rfl, by rw [ht]; exact hP, hD⟩, hS.F ht⟩) hS.2.2 hd)

def fnX3_faultHere (F : Nat) (t_at : Int32) : Option (Int32) :=
  (some (((-20 : Int32) - t_at)))
set_option maxHeartbeats 4000000 in
set_option maxRecDepth 100000 in
theorem kwX3_faultHere {p : Program} {l : Launch} {e : Env} {R : Room} {s : State} {m : MethodId} {args : Array Value} {below : List Frame} {meth : Method} {c : Code} {cells slots : Nat} {Q : State → Prop} {A : Nat → Prop} {H0 : Heap} {D : va_G} {cI cJ cS : ClassId} (hx : p.tables.exec = Jvm.exec) (hb : c.code = cX3_faultHere) (hml : c.maxLocals = 1) (hown : s.vm.findClass RX3 = some m.cls) (hts : ∀ w ∈ wsX3_faultHere, w.before args s = true) (hN : sx_N s) (hK : va_K D vwCl (sx_T cI cJ cS) s) (hA : ∀ q, H0.size ≤ q → A q) (hRf : 0 ≤ R.frames) (hRl : 0 ≤ R.locals) (hRc : cells ≤ R.cells ∧ slots ≤ R.slots) (t_h t_letters_a : Nat) (t_length : Int32) (t_at : Int32) (F : Nat) (r0 : Int32) (hM : fnX3_faultHere F t_at = some r0) (H : Heap) (locs : List Loc) (ls : Array Slot) (hl : lv_has ls 1 [(0, .ref t_h)]) (hP : va_P D vwCl [(t_h, .inr (3, [.ref t_letters_a, .int t_length, .int t_at]))] H) (hD : va_D A [(t_h, .inr (3, [.ref t_letters_a, .int t_length, .int t_at]))]) (hS : va_S A H0 H locs)
    (hret : ∀ (H1 : Heap) (locs1 : List Loc) (ls1 : Array Slot) (pc1 : Nat), decode cX3_faultHere pc1 = .ok (.ireturn, 1) → va_P D vwCl [(t_h, .inr (3, [.ref t_letters_a, .int t_length, .int t_at]))] H1 → va_D A [(t_h, .inr (3, [.ref t_letters_a, .int t_length, .int t_at]))] → va_S A H0 H1 locs1 → W p l e R s m args below meth c H1 locs1 cells slots Q (F0 m pc1 ls1 [.int r0])) : W p l e R s m args below meth c H locs cells slots Q (F0 m 0 ls []) := by
  have hf_19 := hts (.fieldLink RX3 19 "SealedLips$Tape" "at" "I") (by decide +kernel)
  have hin_X3 : ∀ w ∈ wsX30, w ∈ wsX3_faultHere := by decide +kernel
  unfold fnX3_faultHere at hM
  refine lv_bipush (v := -20) hx hb dX3_faultHere_0 (by decide) ?_
  refine lv_aload_n hx hb dX3_faultHere_2 rfl (lv_at hl 0 rfl) ?_
  refine va_get (D := D) (ci := 3) (v := .int t_at) (C := RX3) (T := TX3) (N := 3) hx hb hts hin_X3 hown hK hP 0 rfl rfl 2 (by decide) hf_19 (fun _ h9 => h9) rfl dX3_faultHere_3 ?_
  refine lv_isub hx hb dX3_faultHere_6 ?_
  obtain rfl := sx_o1 hM
  exact hret _ _ _ _ dX3_faultHere_7 (hP.sub [0] rfl) (hD.sub [0] (by decide) rfl) hS
set_option maxHeartbeats 4000000 in
set_option maxRecDepth 100000 in
theorem mtX3_faultHere (l : Launch) (D : va_G) (cI cJ cS : ClassId) (sz : Nat) (t_h t_letters_a : Nat) (t_length : Int32) (t_at : Int32) (F : Nat) (r0 : Int32) (hM : fnX3_faultHere F t_at = some r0) : sx_MI l yX3_faultHere wsX3_faultHere ({ frames := 0, cells := 0, slots := 0, locals := 0 }) D (sx_T cI cJ cS) sz [.ref t_h] [(t_h, .inr (3, [.ref t_letters_a, .int t_length, .int t_at]))] r0 [(t_h, .inr (3, [.ref t_letters_a, .int t_length, .int t_at]))] := by
  refine Met.ofW (cc := cX3_faultHere) (maxL := 1) (ret := (some .int)) (by decide) rfl ?_
  intro p e s m args below meth c s₁ B hml hv
  obtain ⟨rfl, hsz, hN, hP, hK, hD0⟩ := hv
  subst hsz
  have hl := lv_entry ([.ref t_h]) (n := 1) (Nat.le_of_ble_eq_true rfl)
  rw [lg_entry_eq]
  generalize (lg_sl ([.ref t_h]) ++ List.replicate (1 - (lg_sl ([.ref t_h])).length) Slot.unset).toArray = ls at hl ⊢
  exact kwX3_faultHere B.exec B.bytes hml (findClass_of_methodNamed B.named) (atoms_spec (ws := wsX3_faultHere) B.pre) hN hK (fun q h => Or.inr h) (by decide) (by decide) ⟨Nat.zero_le _, Nat.zero_le _⟩ t_h t_letters_a t_length t_at F r0 hM _ _ _ hl hP hD0.self va_S.rf (fun H1 locs1 ls1 pc1 hd hP hD hS => W.iret (v := r0) B.exec B.bytes B.returns (fun t ht hW => ⟨⟨r0, (), rfl, rfl, by rw [ht]; exact hP, hD⟩, hS.F ht⟩) hS.2.2 hd)

def bdX3_readNumber_4 (F : Nat) (t_letters : Nat → Int32) (t_length : Int32) (r_ : Int32 → Int32 → Int32 → Option (Int32 × Int32)) (x1_ : Int32) (x2_ : Int32) (t_at : Int32) : Option (Int32 × Int32) :=
  (if (2 : Int32) ≤ x2_ then (some (x1_, t_at)) else (if t_length ≤ t_at then (some (x1_, t_at)) else sx_gd (sx_ib t_at 70) (sx_c1 (fnX4_within F (t_letters (t_at).toNatClampNeg) (48 : Int32) (57 : Int32)) (fun (r7 : Int32) => (if r7 = 0 then (some (x1_, t_at)) else sx_gd (sx_ib t_at 70) (sx_nm ((((if x1_ < (0 : Int32) then (0 : Int32) else x1_) * (10 : Int32)) + (t_letters (t_at).toNatClampNeg)) - (48 : Int32)) (fun (v11 : Int32) => sx_nm (x2_ + (1 : Int32)) (fun (v12 : Int32) => (r_ v11 v12 (t_at + (1 : Int32)))))))))))
def fnX3_readNumber (F : Nat) (t_letters : Nat → Int32) (t_length : Int32) (t_at : Int32) : Option (Int32 × Int32) :=
  sx_lp3 (bdX3_readNumber_4 F t_letters t_length) F (-1 : Int32) (0 : Int32) t_at
set_option maxHeartbeats 4000000 in
set_option maxRecDepth 100000 in
theorem kwX3_readNumber {p : Program} {l : Launch} {e : Env} {R : Room} {s : State} {m : MethodId} {args : Array Value} {below : List Frame} {meth : Method} {c : Code} {cells slots : Nat} {Q : State → Prop} {A : Nat → Prop} {H0 : Heap} {D : va_G} {cI cJ cS : ClassId} (hx : p.tables.exec = Jvm.exec) (hb : c.code = cX3_readNumber) (hml : c.maxLocals = 3) (hown : s.vm.findClass RX3 = some m.cls) (hts : ∀ w ∈ wsX3_readNumber, w.before args s = true) (hN : sx_N s) (hK : va_K D vwCl (sx_T cI cJ cS) s) (hA : ∀ q, H0.size ≤ q → A q) (hRf : 1 ≤ R.frames) (hRl : 22 ≤ R.locals) (hRc : cells ≤ R.cells ∧ slots ≤ R.slots) (t_h t_letters_a : Nat) (t_letters : Nat → Int32) (t_length : Int32) (t_at : Int32) (F : Nat) (r0 : Int32) (w_t_at : Int32) (hM : fnX3_readNumber F t_letters t_length t_at = some (r0, w_t_at)) (H : Heap) (locs : List Loc) (ls : Array Slot) (hl : lv_has ls 3 [(0, .ref t_h)]) (hP : va_P D vwCl [(t_h, .inr (3, [.ref t_letters_a, .int t_length, .int t_at])), (t_letters_a, .inl (cI, 70, .inl t_letters))] H) (hD : va_D A [(t_h, .inr (3, [.ref t_letters_a, .int t_length, .int t_at])), (t_letters_a, .inl (cI, 70, .inl t_letters))]) (hS : va_S A H0 H locs)
    (hret : ∀ (H1 : Heap) (locs1 : List Loc) (ls1 : Array Slot) (pc1 : Nat), decode cX3_readNumber pc1 = .ok (.ireturn, 1) → va_P D vwCl [(t_h, .inr (3, [.ref t_letters_a, .int t_length, .int w_t_at])), (t_letters_a, .inl (cI, 70, .inl t_letters))] H1 → va_D A [(t_h, .inr (3, [.ref t_letters_a, .int t_length, .int w_t_at])), (t_letters_a, .inl (cI, 70, .inl t_letters))] → va_S A H0 H1 locs1 → W p l e R s m args below meth c H1 locs1 cells slots Q (F0 m pc1 ls1 [.int r0])) : W p l e R s m args below meth c H locs cells slots Q (F0 m 0 ls []) := by
  have hf_9 := hts (.fieldLink RX3 9 "SealedLips$Tape" "letters" "[I") (by decide +kernel)
  have hf_15 := hts (.fieldLink RX3 15 "SealedLips$Tape" "length" "I") (by decide +kernel)
  have hf_19 := hts (.fieldLink RX3 19 "SealedLips$Tape" "at" "I") (by decide +kernel)
  have hin_X3 : ∀ w ∈ wsX30, w ∈ wsX3_readNumber := by decide +kernel
  unfold fnX3_readNumber at hM
  refine lv_iconst (v := -1) hx hb dX3_readNumber_0 (by decide) ?_
  refine lv_istore_n (lv' := [(1, .int (-1 : Int32)), (0, .ref t_h)]) hx hb dX3_readNumber_1 rfl hl (by decide) rfl (fun ls hl => ?_)
  refine lv_iconst (v := 0) hx hb dX3_readNumber_2 (by decide) ?_
  refine lv_istore_n (lv' := [(2, .int (0 : Int32)), (1, .int (-1 : Int32)), (0, .ref t_h)]) hx hb dX3_readNumber_3 rfl hl (by decide) rfl (fun ls hl => ?_)
  have lp_4 : ∀ (n : Nat) (x1 : Int32) (x2 : Int32) (z3 : Int32) (H : Heap) (locs : List Loc) (ls : Array Slot), sx_lp3 (bdX3_readNumber_4 F t_letters t_length) n x1 x2 z3 = some (r0, w_t_at) → lv_has ls 3 [(0, .ref t_h), (1, .int x1), (2, .int x2)] → va_P D vwCl [(t_h, .inr (3, [.ref t_letters_a, .int t_length, .int z3])), (t_letters_a, .inl (cI, 70, .inl t_letters))] H → va_D A [(t_h, .inr (3, [.ref t_letters_a, .int t_length, .int z3])), (t_letters_a, .inl (cI, 70, .inl t_letters))] → va_S A H0 H locs → W p l e R s m args below meth c H locs cells slots Q (F0 m 4 ls ([])) := by
    intro n
    induction n with
    | zero => intro x1 x2 z3 H locs ls hM; exact (sx_lp3_0 hM).elim
    | succ n ih =>
      intro x1 x2 z3 H locs ls hM hl hP hD hS
      have hM : bdX3_readNumber_4 F t_letters t_length (sx_lp3 (bdX3_readNumber_4 F t_letters t_length) n) x1 x2 z3 = some (r0, w_t_at) := hM
      generalize sx_lp3 (bdX3_readNumber_4 F t_letters t_length) n = r_4 at hM ih
      unfold bdX3_readNumber_4 at hM
      refine lv_iload_n hx hb dX3_readNumber_4 rfl (lv_at hl 2 rfl) ?_
      refine lv_iconst (v := 2) hx hb dX3_readNumber_5 (by decide) ?_
      refine lv_icmp_ge (tgt := 77) hx hb dX3_readNumber_6 (by decide) (fun c4 => ?_) (fun c4 => ?_)
      · replace hM := sx_ift c4 hM
        refine lv_iload_n hx hb dX3_readNumber_77 rfl (lv_at hl 1 rfl) ?_
        obtain ⟨rfl, rfl⟩ := sx_o2 hM
        exact hret _ _ _ _ dX3_readNumber_78 (hP.sub [0, 1] rfl) (hD.sub [0, 1] (by decide) rfl) hS
      · replace hM := sx_iff c4 hM
        refine lv_aload_n hx hb dX3_readNumber_9 rfl (lv_at hl 0 rfl) ?_
        refine va_get (D := D) (ci := 3) (v := .int z3) (C := RX3) (T := TX3) (N := 3) hx hb hts hin_X3 hown hK hP 0 rfl rfl 2 (by decide) hf_19 (fun _ h9 => h9) rfl dX3_readNumber_10 ?_
        refine lv_aload_n hx hb dX3_readNumber_13 rfl (lv_at hl 0 rfl) ?_
        refine va_get (D := D) (ci := 3) (v := .int t_length) (C := RX3) (T := TX3) (N := 3) hx hb hts hin_X3 hown hK hP 0 rfl rfl 1 (by decide) hf_15 (fun _ h9 => h9) rfl dX3_readNumber_14 ?_
        refine lv_icmp_ge (tgt := 77) hx hb dX3_readNumber_17 (by decide) (fun c5 => ?_) (fun c5 => ?_)
        · replace hM := sx_ift c5 hM
          refine lv_iload_n hx hb dX3_readNumber_77 rfl (lv_at hl 1 rfl) ?_
          obtain ⟨rfl, rfl⟩ := sx_o2 hM
          exact hret _ _ _ _ dX3_readNumber_78 (hP.sub [0, 1] rfl) (hD.sub [0, 1] (by decide) rfl) hS
        · replace hM := sx_iff c5 hM
          refine lv_aload_n hx hb dX3_readNumber_20 rfl (lv_at hl 0 rfl) ?_
          refine va_get (D := D) (ci := 3) (v := .ref t_letters_a) (C := RX3) (T := TX3) (N := 3) hx hb hts hin_X3 hown hK hP 0 rfl rfl 0 (by decide) hf_9 (fun _ h9 => h9) rfl dX3_readNumber_21 ?_
          refine lv_aload_n hx hb dX3_readNumber_24 rfl (lv_at hl 0 rfl) ?_
          refine va_get (D := D) (ci := 3) (v := .int z3) (C := RX3) (T := TX3) (N := 3) hx hb hts hin_X3 hown hK hP 0 rfl rfl 2 (by decide) hf_19 (fun _ h9 => h9) rfl dX3_readNumber_25 ?_
          obtain ⟨g6, hM⟩ := sx_gd_s hM
          refine va_iald hx hb hK hP 1 0 rfl rfl (sx_ib_s g6) dX3_readNumber_28 ?_
          refine lv_bipush (v := 48) hx hb dX3_readNumber_29 (by decide) ?_
          refine lv_bipush (v := 57) hx hb dX3_readNumber_31 (by decide) ?_
          obtain ⟨r7, hc8, hM⟩ := sx_c1_s hM
          refine sx_iSN (As := [.int (t_letters (z3).toNatClampNeg), .int (48 : Int32), .int (57 : Int32)]) (rest := []) (wc := []) (wr := [(t_h, .inr (3, [.ref t_letters_a, .int t_length, .int z3])), (t_letters_a, .inl (cI, 70, .inl t_letters))]) (w1 := []) ⟨hx, hb, hml, hown, hts⟩ (mtX4_within l D cI cJ cS H.size (t_letters (z3).toNatClampNeg) (48 : Int32) (57 : Int32) F r7 hc8) ⟨va_cnB (host := "SealedLips") 3 hts gX3_readNumber_X4_within_n41 rfl rfl rfl (hN (.methodLinkNest "SealedLips$Tape" 41 ⟨"SealedLips", "within", "(III)Z"⟩ "SealedLips") (by decide +kernel)) (hts (.initialized RX4) (by decide +kernel)) (by decide +kernel) ⟨Nat.le_trans (by decide) hRf, Nat.le_trans (by decide) hRl⟩, hts (.static yX4_within) (by decide +kernel), trivial⟩ hK hN hP hD hS hA [] [0, 1] rfl (by decide) rfl (by decide) (by decide) rfl hl.1 rfl (Nat.le_of_ble_eq_true rfl) dX3_readNumber_33 hRc (fun H locs hP hD hS => ?_)
          have hP : va_P D vwCl [(t_h, .inr (3, [.ref t_letters_a, .int t_length, .int z3])), (t_letters_a, .inl (cI, 70, .inl t_letters))] H := hP
          have hD : va_D A [(t_h, .inr (3, [.ref t_letters_a, .int t_length, .int z3])), (t_letters_a, .inl (cI, 70, .inl t_letters))] := hD
          refine lv_if_eq (tgt := 77) hx hb dX3_readNumber_36 (by decide) (fun c9 => ?_) (fun c9 => ?_)
          · replace hM := sx_ift c9 hM
            refine lv_iload_n hx hb dX3_readNumber_77 rfl (lv_at hl 1 rfl) ?_
            obtain ⟨rfl, rfl⟩ := sx_o2 hM
            exact hret _ _ _ _ dX3_readNumber_78 (hP.sub [0, 1] rfl) (hD.sub [0, 1] (by decide) rfl) hS
          · replace hM := sx_iff c9 hM
            refine lv_iload_n hx hb dX3_readNumber_39 rfl (lv_at hl 1 rfl) ?_
            refine lv_iconst (v := 0) hx hb dX3_readNumber_40 (by decide) ?_
            refine va_mmax hx hb (hml.trans hl.1.symm) hown (hts (.methodLink RX3 73 Lib.Math.max.name) (by decide +kernel)) (hts (.static Lib.Math.max.name) (by decide +kernel)) (hts (.initialized "java/lang/Math") (by decide +kernel)) (hts (.code Lib.Math.max.name Lib.Math.max.code 2 (some .int)) (by decide +kernel)) (Nat.le_trans (by decide) hRf) (Nat.le_trans (Nat.le_of_ble_eq_true rfl) hRl) hRc.1 hRc.2 dX3_readNumber_41 ?_
            refine lv_bipush (v := 10) hx hb dX3_readNumber_44 (by decide) ?_
            refine lv_imul hx hb dX3_readNumber_46 ?_
            refine lv_aload_n hx hb dX3_readNumber_47 rfl (lv_at hl 0 rfl) ?_
            refine va_get (D := D) (ci := 3) (v := .ref t_letters_a) (C := RX3) (T := TX3) (N := 3) hx hb hts hin_X3 hown hK hP 0 rfl rfl 0 (by decide) hf_9 (fun _ h9 => h9) rfl dX3_readNumber_48 ?_
            refine lv_aload_n hx hb dX3_readNumber_51 rfl (lv_at hl 0 rfl) ?_
            refine va_get (D := D) (ci := 3) (v := .int z3) (C := RX3) (T := TX3) (N := 3) hx hb hts hin_X3 hown hK hP 0 rfl rfl 2 (by decide) hf_19 (fun _ h9 => h9) rfl dX3_readNumber_52 ?_
            obtain ⟨g10, hM⟩ := sx_gd_s hM
            refine va_iald hx hb hK hP 1 0 rfl rfl (sx_ib_s g10) dX3_readNumber_55 ?_
            refine lv_iadd hx hb dX3_readNumber_56 ?_
            refine lv_bipush (v := 48) hx hb dX3_readNumber_57 (by decide) ?_
            refine lv_isub hx hb dX3_readNumber_59 ?_
            obtain ⟨v11, ev11, hM⟩ := sx_nm_s hM
            refine W.eq (g2 := F0 m 60 ls (.int v11 :: [])) (by subst ev11; rfl) ?_
            refine lv_istore_n (lv' := [(1, .int v11), (0, .ref t_h), (2, .int x2)]) hx hb dX3_readNumber_60 rfl hl (by decide) rfl (fun ls hl => ?_)
            refine lv_aload_n hx hb dX3_readNumber_61 rfl (lv_at hl 1 rfl) ?_
            refine lv_dup hx hb dX3_readNumber_62 rfl ?_
            refine va_get (D := D) (ci := 3) (v := .int z3) (C := RX3) (T := TX3) (N := 3) hx hb hts hin_X3 hown hK hP 0 rfl rfl 2 (by decide) hf_19 (fun _ h9 => h9) rfl dX3_readNumber_63 ?_
            refine lv_iconst (v := 1) hx hb dX3_readNumber_66 (by decide) ?_
            refine lv_iadd hx hb dX3_readNumber_67 ?_
            refine va_put (D := D) (ci := 3) (v := .int (z3 + (1 : Int32))) (ty := .int) (C := RX3) (T := TX3) (N := 3) hx hb hts hin_X3 tyX3 tyX3_ok nmX3 hown hK hP hD hS 0 rfl rfl 2 (by decide) hf_19 (fun _ h9 => h9) rfl (tyX3_ok 2 (by decide)) rfl rfl (Nat.le_of_ble_eq_true rfl) dX3_readNumber_68 (fun H locs hP hD hS => ?_)
            have hP : va_P D vwCl [(t_h, .inr (3, [.ref t_letters_a, .int t_length, .int (z3 + (1 : Int32))])), (t_letters_a, .inl (cI, 70, .inl t_letters))] H := hP
            have hD : va_D A [(t_h, .inr (3, [.ref t_letters_a, .int t_length, .int (z3 + (1 : Int32))])), (t_letters_a, .inl (cI, 70, .inl t_letters))] := hD
            obtain ⟨v12, ev12, hM⟩ := sx_nm_s hM
            refine lv_iinc (v := v12) (lv' := [(2, .int v12), (1, .int v11), (0, .ref t_h)]) hx hb dX3_readNumber_71 hl (k := 2) rfl (by rw [ev12]; rfl) (by decide) rfl (fun ls hl => ?_)
            refine lv_goto (tgt := 4) hx hb dX3_readNumber_74 (by decide) ?_
            exact ih v11 v12 (z3 + (1 : Int32)) _ _ _ hM (lv_sub hl [2, 1, 0] rfl) (hP.sub [0, 1] rfl) (hD.sub [0, 1] (by decide) rfl) hS
  exact lp_4 F (-1 : Int32) (0 : Int32) t_at _ _ _ hM (lv_sub hl [2, 1, 0] rfl) (hP.sub [0, 1] rfl) (hD.sub [0, 1] (by decide) rfl) hS
set_option maxHeartbeats 4000000 in
set_option maxRecDepth 100000 in
theorem mtX3_readNumber (l : Launch) (D : va_G) (cI cJ cS : ClassId) (sz : Nat) (t_h t_letters_a : Nat) (t_letters : Nat → Int32) (t_length : Int32) (t_at : Int32) (F : Nat) (r0 : Int32) (w_t_at : Int32) (hM : fnX3_readNumber F t_letters t_length t_at = some (r0, w_t_at)) : sx_MI l yX3_readNumber wsX3_readNumber ({ frames := 1, cells := 0, slots := 0, locals := 22 }) D (sx_T cI cJ cS) sz [.ref t_h] [(t_h, .inr (3, [.ref t_letters_a, .int t_length, .int t_at])), (t_letters_a, .inl (cI, 70, .inl t_letters))] r0 [(t_h, .inr (3, [.ref t_letters_a, .int t_length, .int w_t_at])), (t_letters_a, .inl (cI, 70, .inl t_letters))] := by
  refine Met.ofW (cc := cX3_readNumber) (maxL := 3) (ret := (some .int)) (by decide) rfl ?_
  intro p e s m args below meth c s₁ B hml hv
  obtain ⟨rfl, hsz, hN, hP, hK, hD0⟩ := hv
  subst hsz
  have hl := lv_entry ([.ref t_h]) (n := 3) (Nat.le_of_ble_eq_true rfl)
  rw [lg_entry_eq]
  generalize (lg_sl ([.ref t_h]) ++ List.replicate (3 - (lg_sl ([.ref t_h])).length) Slot.unset).toArray = ls at hl ⊢
  exact kwX3_readNumber B.exec B.bytes hml (findClass_of_methodNamed B.named) (atoms_spec (ws := wsX3_readNumber) B.pre) hN hK (fun q h => Or.inr h) (by decide) (by decide) ⟨Nat.zero_le _, Nat.zero_le _⟩ t_h t_letters_a t_letters t_length t_at F r0 w_t_at hM _ _ _ hl hP hD0.self va_S.rf (fun H1 locs1 ls1 pc1 hd hP hD hS => W.iret (v := r0) B.exec B.bytes B.returns (fun t ht hW => ⟨⟨r0, (), rfl, rfl, by rw [ht]; exact hP, hD⟩, hS.F ht⟩) hS.2.2 hd)

def fnX3_readRules (F : Nat) (t_letters : Nat → Int32) (t_length : Int32) (t_at : Int32) (c_wax : Int32) (c_week : Int32) : Option (Int32 × Int32 × Int32 × Int32) :=
  sx_c2 (fnX3_peek F t_letters t_length t_at) (fun (r1 : Int32) (w2 : Int32) => sx_c1 (fnX4_within F (r1 - (48 : Int32)) (1 : Int32) (9 : Int32)) (fun (r4 : Int32) => (if r4 = 0 then sx_c1 (fnX3_faultHere F w2) (fun (r30 : Int32) => (some (r30, w2, (r1 - (48 : Int32)), c_week))) else sx_c2 (fnX3_peek F t_letters t_length (w2 + (1 : Int32))) (fun (r7 : Int32) (w8 : Int32) => (if r7 = (47 : Int32) then sx_c2 (fnX3_peek F t_letters t_length (w8 + (1 : Int32))) (fun (r11 : Int32) (w12 : Int32) => sx_c1 (fnX3_faultHere F w12) (fun (r14 : Int32) => sx_c2 (fnX3_readNumber F t_letters t_length w12) (fun (r16 : Int32) (w17 : Int32) => sx_c1 (fnX4_within F r16 (2 : Int32) (30 : Int32)) (fun (r19 : Int32) => (if r19 = 0 then (some (r14, w17, (r1 - (48 : Int32)), r16)) else sx_c2 (fnX3_peek F t_letters t_length w17) (fun (r22 : Int32) (w23 : Int32) => (if r22 = (59 : Int32) then (some ((0 : Int32), (w23 + (1 : Int32)), (r1 - (48 : Int32)), r16)) else sx_c1 (fnX3_faultHere F w23) (fun (r26 : Int32) => (some (r26, w23, (r1 - (48 : Int32)), r16)))))))))) else sx_c1 (fnX3_faultHere F w8) (fun (r28 : Int32) => (some (r28, w8, (r1 - (48 : Int32)), c_week))))))))
set_option maxHeartbeats 4000000 in
set_option maxRecDepth 100000 in
theorem kwX3_readRules {p : Program} {l : Launch} {e : Env} {R : Room} {s : State} {m : MethodId} {args : Array Value} {below : List Frame} {meth : Method} {c : Code} {cells slots : Nat} {Q : State → Prop} {A : Nat → Prop} {H0 : Heap} {D : va_G} {cI cJ cS : ClassId} (hx : p.tables.exec = Jvm.exec) (hb : c.code = cX3_readRules) (hml : c.maxLocals = 3) (hown : s.vm.findClass RX3 = some m.cls) (hts : ∀ w ∈ wsX3_readRules, w.before args s = true) (hN : sx_N s) (hK : va_K D vwCl (sx_T cI cJ cS) s) (hA : ∀ q, H0.size ≤ q → A q) (hRf : 2 ≤ R.frames) (hRl : 44 ≤ R.locals) (hRc : cells ≤ R.cells ∧ slots ≤ R.slots) (t_h t_letters_a c_h c_kinds_a c_seating_a c_knows_a c_seals_a c_telling_a : Nat) (t_letters : Nat → Int32) (t_length : Int32) (t_at : Int32) (c_persons : Int32) (c_wax : Int32) (c_week : Int32) (c_day : Int32) (c_draw : Int32) (F : Nat) (r0 : Int32) (w_t_at : Int32) (w_c_wax : Int32) (w_c_week : Int32) (hM : fnX3_readRules F t_letters t_length t_at c_wax c_week = some (r0, w_t_at, w_c_wax, w_c_week)) (H : Heap) (locs : List Loc) (ls : Array Slot) (hl : lv_has ls 3 [(0, .ref t_h), (1, .ref c_h)]) (hP : va_P D vwCl [(t_h, .inr (3, [.ref t_letters_a, .int t_length, .int t_at])), (t_letters_a, .inl (cI, 70, .inl t_letters)), (c_h, .inr (0, [.ref c_kinds_a, .ref c_seating_a, .ref c_knows_a, .ref c_seals_a, .ref c_telling_a, .int c_persons, .int c_wax, .int c_week, .int c_day, .int c_draw]))] H) (hD : va_D A [(t_h, .inr (3, [.ref t_letters_a, .int t_length, .int t_at])), (t_letters_a, .inl (cI, 70, .inl t_letters)), (c_h, .inr (0, [.ref c_kinds_a, .ref c_seating_a, .ref c_knows_a, .ref c_seals_a, .ref c_telling_a, .int c_persons, .int c_wax, .int c_week, .int c_day, .int c_draw]))]) (hS : va_S A H0 H locs)
    (hret : ∀ (H1 : Heap) (locs1 : List Loc) (ls1 : Array Slot) (pc1 : Nat), decode cX3_readRules pc1 = .ok (.ireturn, 1) → va_P D vwCl [(t_h, .inr (3, [.ref t_letters_a, .int t_length, .int w_t_at])), (t_letters_a, .inl (cI, 70, .inl t_letters)), (c_h, .inr (0, [.ref c_kinds_a, .ref c_seating_a, .ref c_knows_a, .ref c_seals_a, .ref c_telling_a, .int c_persons, .int w_c_wax, .int w_c_week, .int c_day, .int c_draw]))] H1 → va_D A [(t_h, .inr (3, [.ref t_letters_a, .int t_length, .int w_t_at])), (t_letters_a, .inl (cI, 70, .inl t_letters)), (c_h, .inr (0, [.ref c_kinds_a, .ref c_seating_a, .ref c_knows_a, .ref c_seals_a, .ref c_telling_a, .int c_persons, .int w_c_wax, .int w_c_week, .int c_day, .int c_draw]))] → va_S A H0 H1 locs1 → W p l e R s m args below meth c H1 locs1 cells slots Q (F0 m pc1 ls1 [.int r0])) : W p l e R s m args below meth c H locs cells slots Q (F0 m 0 ls []) := by
  have hf_19 := hts (.fieldLink RX3 19 "SealedLips$Tape" "at" "I") (by decide +kernel)
  have hf_38 := sx_N.f (args := args) hN (show Cond.fieldLinkNest "SealedLips$Tape" 38 "SealedLips$Court" "wax" "I" "SealedLips" ∈ sx_nw by decide +kernel)
  have hf_51 := sx_N.f (args := args) hN (show Cond.fieldLinkNest "SealedLips$Tape" 51 "SealedLips$Court" "week" "I" "SealedLips" ∈ sx_nw by decide +kernel)
  have hin_X0 : ∀ w ∈ wsX00, w ∈ wsX3_readRules := by decide +kernel
  have hin_X3 : ∀ w ∈ wsX30, w ∈ wsX3_readRules := by decide +kernel
  unfold fnX3_readRules at hM
  refine lv_aload_n hx hb dX3_readRules_0 rfl (lv_at hl 1 rfl) ?_
  refine lv_aload_n hx hb dX3_readRules_1 rfl (lv_at hl 0 rfl) ?_
  obtain ⟨r1, w2, hc3, hM⟩ := sx_c2_s hM
  refine sx_iV (As := []) (rest := [.ref c_h]) (wc := [(t_h, .inr (3, [.ref t_letters_a, .int t_length, .int t_at])), (t_letters_a, .inl (cI, 70, .inl t_letters))]) (wr := [(c_h, .inr (0, [.ref c_kinds_a, .ref c_seating_a, .ref c_knows_a, .ref c_seals_a, .ref c_telling_a, .int c_persons, .int c_wax, .int c_week, .int c_day, .int c_draw]))]) (w1 := [(t_h, .inr (3, [.ref t_letters_a, .int t_length, .int w2])), (t_letters_a, .inl (cI, 70, .inl t_letters))]) ⟨hx, hb, hml, hown, hts⟩ (mtX3_peek l D cI cJ cS H.size t_h t_letters_a t_letters t_length t_at F r1 w2 hc3) (cwV 0 hts gX3_readRules_X3_peek rfl rfl rfl (by decide +kernel) ⟨Nat.le_trans (by decide) hRf, Nat.le_trans (by decide) hRl⟩) hK hN hP hD hS hA [0, 1] [2] rfl (by decide) rfl (by decide) (by decide) rfl rfl rfl rfl hl.1 rfl (Nat.le_of_ble_eq_true rfl) dX3_readRules_2 hRc (fun H locs hP hD hS => ?_)
  have hP : va_P D vwCl [(c_h, .inr (0, [.ref c_kinds_a, .ref c_seating_a, .ref c_knows_a, .ref c_seals_a, .ref c_telling_a, .int c_persons, .int c_wax, .int c_week, .int c_day, .int c_draw])), (t_h, .inr (3, [.ref t_letters_a, .int t_length, .int w2])), (t_letters_a, .inl (cI, 70, .inl t_letters))] H := hP
  have hD : va_D A [(c_h, .inr (0, [.ref c_kinds_a, .ref c_seating_a, .ref c_knows_a, .ref c_seals_a, .ref c_telling_a, .int c_persons, .int c_wax, .int c_week, .int c_day, .int c_draw])), (t_h, .inr (3, [.ref t_letters_a, .int t_length, .int w2])), (t_letters_a, .inl (cI, 70, .inl t_letters))] := hD
  refine lv_bipush (v := 48) hx hb dX3_readRules_5 (by decide) ?_
  refine lv_isub hx hb dX3_readRules_7 ?_
  refine va_putN (D := D) (ci := 0) (v := .int (r1 - (48 : Int32))) (ty := .int) (C := RX0) (T := TX0) (N := 10) hx hb hts hin_X0 tyX0 tyX0_ok nmX0 hown hK hP hD hS 0 rfl rfl 6 (by decide) hf_38 (fun _ h9 => h9) rfl (tyX0_ok 6 (by decide)) rfl rfl (Nat.le_of_ble_eq_true rfl) dX3_readRules_8 (fun H locs hP hD hS => ?_)
  have hP : va_P D vwCl [(c_h, .inr (0, [.ref c_kinds_a, .ref c_seating_a, .ref c_knows_a, .ref c_seals_a, .ref c_telling_a, .int c_persons, .int (r1 - (48 : Int32)), .int c_week, .int c_day, .int c_draw])), (t_h, .inr (3, [.ref t_letters_a, .int t_length, .int w2])), (t_letters_a, .inl (cI, 70, .inl t_letters))] H := hP
  have hD : va_D A [(c_h, .inr (0, [.ref c_kinds_a, .ref c_seating_a, .ref c_knows_a, .ref c_seals_a, .ref c_telling_a, .int c_persons, .int (r1 - (48 : Int32)), .int c_week, .int c_day, .int c_draw])), (t_h, .inr (3, [.ref t_letters_a, .int t_length, .int w2])), (t_letters_a, .inl (cI, 70, .inl t_letters))] := hD
  refine lv_aload_n hx hb dX3_readRules_11 rfl (lv_at hl 1 rfl) ?_
  refine va_getN (D := D) (ci := 0) (v := .int (r1 - (48 : Int32))) (C := RX0) (T := TX0) (N := 10) hx hb hts hin_X0 hown hK hP 0 rfl rfl 6 (by decide) hf_38 (fun _ h9 => h9) rfl dX3_readRules_12 ?_
  refine lv_iconst (v := 1) hx hb dX3_readRules_15 (by decide) ?_
  refine lv_bipush (v := 9) hx hb dX3_readRules_16 (by decide) ?_
  obtain ⟨r4, hc5, hM⟩ := sx_c1_s hM
  refine sx_iSN (As := [.int (r1 - (48 : Int32)), .int (1 : Int32), .int (9 : Int32)]) (rest := []) (wc := []) (wr := [(c_h, .inr (0, [.ref c_kinds_a, .ref c_seating_a, .ref c_knows_a, .ref c_seals_a, .ref c_telling_a, .int c_persons, .int (r1 - (48 : Int32)), .int c_week, .int c_day, .int c_draw])), (t_h, .inr (3, [.ref t_letters_a, .int t_length, .int w2])), (t_letters_a, .inl (cI, 70, .inl t_letters))]) (w1 := []) ⟨hx, hb, hml, hown, hts⟩ (mtX4_within l D cI cJ cS H.size (r1 - (48 : Int32)) (1 : Int32) (9 : Int32) F r4 hc5) ⟨va_cnB (host := "SealedLips") 3 hts gX3_readRules_X4_within_n41 rfl rfl rfl (hN (.methodLinkNest "SealedLips$Tape" 41 ⟨"SealedLips", "within", "(III)Z"⟩ "SealedLips") (by decide +kernel)) (hts (.initialized RX4) (by decide +kernel)) (by decide +kernel) ⟨Nat.le_trans (by decide) hRf, Nat.le_trans (by decide) hRl⟩, hts (.static yX4_within) (by decide +kernel), trivial⟩ hK hN hP hD hS hA [] [0, 1, 2] rfl (by decide) rfl (by decide) (by decide) rfl hl.1 rfl (Nat.le_of_ble_eq_true rfl) dX3_readRules_18 hRc (fun H locs hP hD hS => ?_)
  have hP : va_P D vwCl [(c_h, .inr (0, [.ref c_kinds_a, .ref c_seating_a, .ref c_knows_a, .ref c_seals_a, .ref c_telling_a, .int c_persons, .int (r1 - (48 : Int32)), .int c_week, .int c_day, .int c_draw])), (t_h, .inr (3, [.ref t_letters_a, .int t_length, .int w2])), (t_letters_a, .inl (cI, 70, .inl t_letters))] H := hP
  have hD : va_D A [(c_h, .inr (0, [.ref c_kinds_a, .ref c_seating_a, .ref c_knows_a, .ref c_seals_a, .ref c_telling_a, .int c_persons, .int (r1 - (48 : Int32)), .int c_week, .int c_day, .int c_draw])), (t_h, .inr (3, [.ref t_letters_a, .int t_length, .int w2])), (t_letters_a, .inl (cI, 70, .inl t_letters))] := hD
  refine lv_if_ne (tgt := 29) hx hb dX3_readRules_21 (by decide) (fun c6 => ?_) (fun c6 => ?_)
  · replace hM := sx_iff c6 hM
    refine lv_aload_n hx hb dX3_readRules_29 rfl (lv_at hl 0 rfl) ?_
    refine lv_dup hx hb dX3_readRules_30 rfl ?_
    refine va_get (D := D) (ci := 3) (v := .int w2) (C := RX3) (T := TX3) (N := 3) hx hb hts hin_X3 hown hK hP 1 rfl rfl 2 (by decide) hf_19 (fun _ h9 => h9) rfl dX3_readRules_31 ?_
    refine lv_iconst (v := 1) hx hb dX3_readRules_34 (by decide) ?_
    refine lv_iadd hx hb dX3_readRules_35 ?_
    refine va_put (D := D) (ci := 3) (v := .int (w2 + (1 : Int32))) (ty := .int) (C := RX3) (T := TX3) (N := 3) hx hb hts hin_X3 tyX3 tyX3_ok nmX3 hown hK hP hD hS 1 rfl rfl 2 (by decide) hf_19 (fun _ h9 => h9) rfl (tyX3_ok 2 (by decide)) rfl rfl (Nat.le_of_ble_eq_true rfl) dX3_readRules_36 (fun H locs hP hD hS => ?_)
    have hP : va_P D vwCl [(c_h, .inr (0, [.ref c_kinds_a, .ref c_seating_a, .ref c_knows_a, .ref c_seals_a, .ref c_telling_a, .int c_persons, .int (r1 - (48 : Int32)), .int c_week, .int c_day, .int c_draw])), (t_h, .inr (3, [.ref t_letters_a, .int t_length, .int (w2 + (1 : Int32))])), (t_letters_a, .inl (cI, 70, .inl t_letters))] H := hP
    have hD : va_D A [(c_h, .inr (0, [.ref c_kinds_a, .ref c_seating_a, .ref c_knows_a, .ref c_seals_a, .ref c_telling_a, .int c_persons, .int (r1 - (48 : Int32)), .int c_week, .int c_day, .int c_draw])), (t_h, .inr (3, [.ref t_letters_a, .int t_length, .int (w2 + (1 : Int32))])), (t_letters_a, .inl (cI, 70, .inl t_letters))] := hD
    refine lv_aload_n hx hb dX3_readRules_39 rfl (lv_at hl 0 rfl) ?_
    obtain ⟨r7, w8, hc9, hM⟩ := sx_c2_s hM
    refine sx_iV (As := []) (rest := []) (wc := [(t_h, .inr (3, [.ref t_letters_a, .int t_length, .int (w2 + (1 : Int32))])), (t_letters_a, .inl (cI, 70, .inl t_letters))]) (wr := [(c_h, .inr (0, [.ref c_kinds_a, .ref c_seating_a, .ref c_knows_a, .ref c_seals_a, .ref c_telling_a, .int c_persons, .int (r1 - (48 : Int32)), .int c_week, .int c_day, .int c_draw]))]) (w1 := [(t_h, .inr (3, [.ref t_letters_a, .int t_length, .int w8])), (t_letters_a, .inl (cI, 70, .inl t_letters))]) ⟨hx, hb, hml, hown, hts⟩ (mtX3_peek l D cI cJ cS H.size t_h t_letters_a t_letters t_length (w2 + (1 : Int32)) F r7 w8 hc9) (cwV 0 hts gX3_readRules_X3_peek rfl rfl rfl (by decide +kernel) ⟨Nat.le_trans (by decide) hRf, Nat.le_trans (by decide) hRl⟩) hK hN hP hD hS hA [1, 2] [0] rfl (by decide) rfl (by decide) (by decide) rfl rfl rfl rfl hl.1 rfl (Nat.le_of_ble_eq_true rfl) dX3_readRules_40 hRc (fun H locs hP hD hS => ?_)
    have hP : va_P D vwCl [(c_h, .inr (0, [.ref c_kinds_a, .ref c_seating_a, .ref c_knows_a, .ref c_seals_a, .ref c_telling_a, .int c_persons, .int (r1 - (48 : Int32)), .int c_week, .int c_day, .int c_draw])), (t_h, .inr (3, [.ref t_letters_a, .int t_length, .int w8])), (t_letters_a, .inl (cI, 70, .inl t_letters))] H := hP
    have hD : va_D A [(c_h, .inr (0, [.ref c_kinds_a, .ref c_seating_a, .ref c_knows_a, .ref c_seals_a, .ref c_telling_a, .int c_persons, .int (r1 - (48 : Int32)), .int c_week, .int c_day, .int c_draw])), (t_h, .inr (3, [.ref t_letters_a, .int t_length, .int w8])), (t_letters_a, .inl (cI, 70, .inl t_letters))] := hD
    refine lv_bipush (v := 47) hx hb dX3_readRules_43 (by decide) ?_
    refine lv_icmp_eq (tgt := 53) hx hb dX3_readRules_45 (by decide) (fun c10 => ?_) (fun c10 => ?_)
    · replace hM := sx_ift c10 hM
      refine lv_aload_n hx hb dX3_readRules_53 rfl (lv_at hl 0 rfl) ?_
      refine lv_dup hx hb dX3_readRules_54 rfl ?_
      refine va_get (D := D) (ci := 3) (v := .int w8) (C := RX3) (T := TX3) (N := 3) hx hb hts hin_X3 hown hK hP 1 rfl rfl 2 (by decide) hf_19 (fun _ h9 => h9) rfl dX3_readRules_55 ?_
      refine lv_iconst (v := 1) hx hb dX3_readRules_58 (by decide) ?_
      refine lv_iadd hx hb dX3_readRules_59 ?_
      refine va_put (D := D) (ci := 3) (v := .int (w8 + (1 : Int32))) (ty := .int) (C := RX3) (T := TX3) (N := 3) hx hb hts hin_X3 tyX3 tyX3_ok nmX3 hown hK hP hD hS 1 rfl rfl 2 (by decide) hf_19 (fun _ h9 => h9) rfl (tyX3_ok 2 (by decide)) rfl rfl (Nat.le_of_ble_eq_true rfl) dX3_readRules_60 (fun H locs hP hD hS => ?_)
      have hP : va_P D vwCl [(c_h, .inr (0, [.ref c_kinds_a, .ref c_seating_a, .ref c_knows_a, .ref c_seals_a, .ref c_telling_a, .int c_persons, .int (r1 - (48 : Int32)), .int c_week, .int c_day, .int c_draw])), (t_h, .inr (3, [.ref t_letters_a, .int t_length, .int (w8 + (1 : Int32))])), (t_letters_a, .inl (cI, 70, .inl t_letters))] H := hP
      have hD : va_D A [(c_h, .inr (0, [.ref c_kinds_a, .ref c_seating_a, .ref c_knows_a, .ref c_seals_a, .ref c_telling_a, .int c_persons, .int (r1 - (48 : Int32)), .int c_week, .int c_day, .int c_draw])), (t_h, .inr (3, [.ref t_letters_a, .int t_length, .int (w8 + (1 : Int32))])), (t_letters_a, .inl (cI, 70, .inl t_letters))] := hD
      refine lv_aload_n hx hb dX3_readRules_63 rfl (lv_at hl 0 rfl) ?_
      obtain ⟨r11, w12, hc13, hM⟩ := sx_c2_s hM
      refine sx_iV (As := []) (rest := []) (wc := [(t_h, .inr (3, [.ref t_letters_a, .int t_length, .int (w8 + (1 : Int32))])), (t_letters_a, .inl (cI, 70, .inl t_letters))]) (wr := [(c_h, .inr (0, [.ref c_kinds_a, .ref c_seating_a, .ref c_knows_a, .ref c_seals_a, .ref c_telling_a, .int c_persons, .int (r1 - (48 : Int32)), .int c_week, .int c_day, .int c_draw]))]) (w1 := [(t_h, .inr (3, [.ref t_letters_a, .int t_length, .int w12])), (t_letters_a, .inl (cI, 70, .inl t_letters))]) ⟨hx, hb, hml, hown, hts⟩ (mtX3_peek l D cI cJ cS H.size t_h t_letters_a t_letters t_length (w8 + (1 : Int32)) F r11 w12 hc13) (cwV 0 hts gX3_readRules_X3_peek rfl rfl rfl (by decide +kernel) ⟨Nat.le_trans (by decide) hRf, Nat.le_trans (by decide) hRl⟩) hK hN hP hD hS hA [1, 2] [0] rfl (by decide) rfl (by decide) (by decide) rfl rfl rfl rfl hl.1 rfl (Nat.le_of_ble_eq_true rfl) dX3_readRules_64 hRc (fun H locs hP hD hS => ?_)
      have hP : va_P D vwCl [(c_h, .inr (0, [.ref c_kinds_a, .ref c_seating_a, .ref c_knows_a, .ref c_seals_a, .ref c_telling_a, .int c_persons, .int (r1 - (48 : Int32)), .int c_week, .int c_day, .int c_draw])), (t_h, .inr (3, [.ref t_letters_a, .int t_length, .int w12])), (t_letters_a, .inl (cI, 70, .inl t_letters))] H := hP
      have hD : va_D A [(c_h, .inr (0, [.ref c_kinds_a, .ref c_seating_a, .ref c_knows_a, .ref c_seals_a, .ref c_telling_a, .int c_persons, .int (r1 - (48 : Int32)), .int c_week, .int c_day, .int c_draw])), (t_h, .inr (3, [.ref t_letters_a, .int t_length, .int w12])), (t_letters_a, .inl (cI, 70, .inl t_letters))] := hD
      refine lv_pop hx hb dX3_readRules_67 rfl ?_
      refine lv_aload_n hx hb dX3_readRules_68 rfl (lv_at hl 0 rfl) ?_
      obtain ⟨r14, hc15, hM⟩ := sx_c1_s hM
      refine sx_iV (As := []) (rest := []) (wc := [(t_h, .inr (3, [.ref t_letters_a, .int t_length, .int w12]))]) (wr := [(c_h, .inr (0, [.ref c_kinds_a, .ref c_seating_a, .ref c_knows_a, .ref c_seals_a, .ref c_telling_a, .int c_persons, .int (r1 - (48 : Int32)), .int c_week, .int c_day, .int c_draw])), (t_letters_a, .inl (cI, 70, .inl t_letters))]) (w1 := [(t_h, .inr (3, [.ref t_letters_a, .int t_length, .int w12]))]) ⟨hx, hb, hml, hown, hts⟩ (mtX3_faultHere l D cI cJ cS H.size t_h t_letters_a t_length w12 F r14 hc15) (cwV 0 hts gX3_readRules_X3_faultHere rfl rfl rfl (by decide +kernel) ⟨Nat.le_trans (by decide) hRf, Nat.le_trans (by decide) hRl⟩) hK hN hP hD hS hA [1] [0, 2] rfl (by decide) rfl (by decide) (by decide) rfl rfl rfl rfl hl.1 rfl (Nat.le_of_ble_eq_true rfl) dX3_readRules_69 hRc (fun H locs hP hD hS => ?_)
      have hP : va_P D vwCl [(c_h, .inr (0, [.ref c_kinds_a, .ref c_seating_a, .ref c_knows_a, .ref c_seals_a, .ref c_telling_a, .int c_persons, .int (r1 - (48 : Int32)), .int c_week, .int c_day, .int c_draw])), (t_letters_a, .inl (cI, 70, .inl t_letters)), (t_h, .inr (3, [.ref t_letters_a, .int t_length, .int w12]))] H := hP
      have hD : va_D A [(c_h, .inr (0, [.ref c_kinds_a, .ref c_seating_a, .ref c_knows_a, .ref c_seals_a, .ref c_telling_a, .int c_persons, .int (r1 - (48 : Int32)), .int c_week, .int c_day, .int c_draw])), (t_letters_a, .inl (cI, 70, .inl t_letters)), (t_h, .inr (3, [.ref t_letters_a, .int t_length, .int w12]))] := hD
      refine lv_istore_n (lv' := [(2, .int r14), (0, .ref t_h), (1, .ref c_h)]) hx hb dX3_readRules_72 rfl hl (by decide) rfl (fun ls hl => ?_)
      refine lv_aload_n hx hb dX3_readRules_73 rfl (lv_at hl 2 rfl) ?_
      refine lv_aload_n hx hb dX3_readRules_74 rfl (lv_at hl 1 rfl) ?_
      obtain ⟨r16, w17, hc18, hM⟩ := sx_c2_s hM
      refine sx_iV (As := []) (rest := [.ref c_h]) (wc := [(t_h, .inr (3, [.ref t_letters_a, .int t_length, .int w12])), (t_letters_a, .inl (cI, 70, .inl t_letters))]) (wr := [(c_h, .inr (0, [.ref c_kinds_a, .ref c_seating_a, .ref c_knows_a, .ref c_seals_a, .ref c_telling_a, .int c_persons, .int (r1 - (48 : Int32)), .int c_week, .int c_day, .int c_draw]))]) (w1 := [(t_h, .inr (3, [.ref t_letters_a, .int t_length, .int w17])), (t_letters_a, .inl (cI, 70, .inl t_letters))]) ⟨hx, hb, hml, hown, hts⟩ (mtX3_readNumber l D cI cJ cS H.size t_h t_letters_a t_letters t_length w12 F r16 w17 hc18) (cwV 0 hts gX3_readRules_X3_readNumber rfl rfl rfl (by decide +kernel) ⟨Nat.le_trans (by decide) hRf, Nat.le_trans (by decide) hRl⟩) hK hN hP hD hS hA [2, 1] [0] rfl (by decide) rfl (by decide) (by decide) rfl rfl rfl rfl hl.1 rfl (Nat.le_of_ble_eq_true rfl) dX3_readRules_75 hRc (fun H locs hP hD hS => ?_)
      have hP : va_P D vwCl [(c_h, .inr (0, [.ref c_kinds_a, .ref c_seating_a, .ref c_knows_a, .ref c_seals_a, .ref c_telling_a, .int c_persons, .int (r1 - (48 : Int32)), .int c_week, .int c_day, .int c_draw])), (t_h, .inr (3, [.ref t_letters_a, .int t_length, .int w17])), (t_letters_a, .inl (cI, 70, .inl t_letters))] H := hP
      have hD : va_D A [(c_h, .inr (0, [.ref c_kinds_a, .ref c_seating_a, .ref c_knows_a, .ref c_seals_a, .ref c_telling_a, .int c_persons, .int (r1 - (48 : Int32)), .int c_week, .int c_day, .int c_draw])), (t_h, .inr (3, [.ref t_letters_a, .int t_length, .int w17])), (t_letters_a, .inl (cI, 70, .inl t_letters))] := hD
      refine va_putN (D := D) (ci := 0) (v := .int r16) (ty := .int) (C := RX0) (T := TX0) (N := 10) hx hb hts hin_X0 tyX0 tyX0_ok nmX0 hown hK hP hD hS 0 rfl rfl 7 (by decide) hf_51 (fun _ h9 => h9) rfl (tyX0_ok 7 (by decide)) rfl rfl (Nat.le_of_ble_eq_true rfl) dX3_readRules_78 (fun H locs hP hD hS => ?_)
      have hP : va_P D vwCl [(c_h, .inr (0, [.ref c_kinds_a, .ref c_seating_a, .ref c_knows_a, .ref c_seals_a, .ref c_telling_a, .int c_persons, .int (r1 - (48 : Int32)), .int r16, .int c_day, .int c_draw])), (t_h, .inr (3, [.ref t_letters_a, .int t_length, .int w17])), (t_letters_a, .inl (cI, 70, .inl t_letters))] H := hP
      have hD : va_D A [(c_h, .inr (0, [.ref c_kinds_a, .ref c_seating_a, .ref c_knows_a, .ref c_seals_a, .ref c_telling_a, .int c_persons, .int (r1 - (48 : Int32)), .int r16, .int c_day, .int c_draw])), (t_h, .inr (3, [.ref t_letters_a, .int t_length, .int w17])), (t_letters_a, .inl (cI, 70, .inl t_letters))] := hD
      refine lv_aload_n hx hb dX3_readRules_81 rfl (lv_at hl 2 rfl) ?_
      refine va_getN (D := D) (ci := 0) (v := .int r16) (C := RX0) (T := TX0) (N := 10) hx hb hts hin_X0 hown hK hP 0 rfl rfl 7 (by decide) hf_51 (fun _ h9 => h9) rfl dX3_readRules_82 ?_
      refine lv_iconst (v := 2) hx hb dX3_readRules_85 (by decide) ?_
      refine lv_bipush (v := 30) hx hb dX3_readRules_86 (by decide) ?_
      obtain ⟨r19, hc20, hM⟩ := sx_c1_s hM
      refine sx_iSN (As := [.int r16, .int (2 : Int32), .int (30 : Int32)]) (rest := []) (wc := []) (wr := [(c_h, .inr (0, [.ref c_kinds_a, .ref c_seating_a, .ref c_knows_a, .ref c_seals_a, .ref c_telling_a, .int c_persons, .int (r1 - (48 : Int32)), .int r16, .int c_day, .int c_draw])), (t_h, .inr (3, [.ref t_letters_a, .int t_length, .int w17])), (t_letters_a, .inl (cI, 70, .inl t_letters))]) (w1 := []) ⟨hx, hb, hml, hown, hts⟩ (mtX4_within l D cI cJ cS H.size r16 (2 : Int32) (30 : Int32) F r19 hc20) ⟨va_cnB (host := "SealedLips") 3 hts gX3_readRules_X4_within_n41 rfl rfl rfl (hN (.methodLinkNest "SealedLips$Tape" 41 ⟨"SealedLips", "within", "(III)Z"⟩ "SealedLips") (by decide +kernel)) (hts (.initialized RX4) (by decide +kernel)) (by decide +kernel) ⟨Nat.le_trans (by decide) hRf, Nat.le_trans (by decide) hRl⟩, hts (.static yX4_within) (by decide +kernel), trivial⟩ hK hN hP hD hS hA [] [0, 1, 2] rfl (by decide) rfl (by decide) (by decide) rfl hl.1 rfl (Nat.le_of_ble_eq_true rfl) dX3_readRules_88 hRc (fun H locs hP hD hS => ?_)
      have hP : va_P D vwCl [(c_h, .inr (0, [.ref c_kinds_a, .ref c_seating_a, .ref c_knows_a, .ref c_seals_a, .ref c_telling_a, .int c_persons, .int (r1 - (48 : Int32)), .int r16, .int c_day, .int c_draw])), (t_h, .inr (3, [.ref t_letters_a, .int t_length, .int w17])), (t_letters_a, .inl (cI, 70, .inl t_letters))] H := hP
      have hD : va_D A [(c_h, .inr (0, [.ref c_kinds_a, .ref c_seating_a, .ref c_knows_a, .ref c_seals_a, .ref c_telling_a, .int c_persons, .int (r1 - (48 : Int32)), .int r16, .int c_day, .int c_draw])), (t_h, .inr (3, [.ref t_letters_a, .int t_length, .int w17])), (t_letters_a, .inl (cI, 70, .inl t_letters))] := hD
      refine lv_if_ne (tgt := 96) hx hb dX3_readRules_91 (by decide) (fun c21 => ?_) (fun c21 => ?_)
      · replace hM := sx_iff c21 hM
        refine lv_aload_n hx hb dX3_readRules_96 rfl (lv_at hl 1 rfl) ?_
        obtain ⟨r22, w23, hc24, hM⟩ := sx_c2_s hM
        refine sx_iV (As := []) (rest := []) (wc := [(t_h, .inr (3, [.ref t_letters_a, .int t_length, .int w17])), (t_letters_a, .inl (cI, 70, .inl t_letters))]) (wr := [(c_h, .inr (0, [.ref c_kinds_a, .ref c_seating_a, .ref c_knows_a, .ref c_seals_a, .ref c_telling_a, .int c_persons, .int (r1 - (48 : Int32)), .int r16, .int c_day, .int c_draw]))]) (w1 := [(t_h, .inr (3, [.ref t_letters_a, .int t_length, .int w23])), (t_letters_a, .inl (cI, 70, .inl t_letters))]) ⟨hx, hb, hml, hown, hts⟩ (mtX3_peek l D cI cJ cS H.size t_h t_letters_a t_letters t_length w17 F r22 w23 hc24) (cwV 0 hts gX3_readRules_X3_peek rfl rfl rfl (by decide +kernel) ⟨Nat.le_trans (by decide) hRf, Nat.le_trans (by decide) hRl⟩) hK hN hP hD hS hA [1, 2] [0] rfl (by decide) rfl (by decide) (by decide) rfl rfl rfl rfl hl.1 rfl (Nat.le_of_ble_eq_true rfl) dX3_readRules_97 hRc (fun H locs hP hD hS => ?_)
        have hP : va_P D vwCl [(c_h, .inr (0, [.ref c_kinds_a, .ref c_seating_a, .ref c_knows_a, .ref c_seals_a, .ref c_telling_a, .int c_persons, .int (r1 - (48 : Int32)), .int r16, .int c_day, .int c_draw])), (t_h, .inr (3, [.ref t_letters_a, .int t_length, .int w23])), (t_letters_a, .inl (cI, 70, .inl t_letters))] H := hP
        have hD : va_D A [(c_h, .inr (0, [.ref c_kinds_a, .ref c_seating_a, .ref c_knows_a, .ref c_seals_a, .ref c_telling_a, .int c_persons, .int (r1 - (48 : Int32)), .int r16, .int c_day, .int c_draw])), (t_h, .inr (3, [.ref t_letters_a, .int t_length, .int w23])), (t_letters_a, .inl (cI, 70, .inl t_letters))] := hD
        refine lv_bipush (v := 59) hx hb dX3_readRules_100 (by decide) ?_
        refine lv_icmp_eq (tgt := 110) hx hb dX3_readRules_102 (by decide) (fun c25 => ?_) (fun c25 => ?_)
        · replace hM := sx_ift c25 hM
          refine lv_aload_n hx hb dX3_readRules_110 rfl (lv_at hl 1 rfl) ?_
          refine lv_dup hx hb dX3_readRules_111 rfl ?_
          refine va_get (D := D) (ci := 3) (v := .int w23) (C := RX3) (T := TX3) (N := 3) hx hb hts hin_X3 hown hK hP 1 rfl rfl 2 (by decide) hf_19 (fun _ h9 => h9) rfl dX3_readRules_112 ?_
          refine lv_iconst (v := 1) hx hb dX3_readRules_115 (by decide) ?_
          refine lv_iadd hx hb dX3_readRules_116 ?_
          refine va_put (D := D) (ci := 3) (v := .int (w23 + (1 : Int32))) (ty := .int) (C := RX3) (T := TX3) (N := 3) hx hb hts hin_X3 tyX3 tyX3_ok nmX3 hown hK hP hD hS 1 rfl rfl 2 (by decide) hf_19 (fun _ h9 => h9) rfl (tyX3_ok 2 (by decide)) rfl rfl (Nat.le_of_ble_eq_true rfl) dX3_readRules_117 (fun H locs hP hD hS => ?_)
          have hP : va_P D vwCl [(c_h, .inr (0, [.ref c_kinds_a, .ref c_seating_a, .ref c_knows_a, .ref c_seals_a, .ref c_telling_a, .int c_persons, .int (r1 - (48 : Int32)), .int r16, .int c_day, .int c_draw])), (t_h, .inr (3, [.ref t_letters_a, .int t_length, .int (w23 + (1 : Int32))])), (t_letters_a, .inl (cI, 70, .inl t_letters))] H := hP
          have hD : va_D A [(c_h, .inr (0, [.ref c_kinds_a, .ref c_seating_a, .ref c_knows_a, .ref c_seals_a, .ref c_telling_a, .int c_persons, .int (r1 - (48 : Int32)), .int r16, .int c_day, .int c_draw])), (t_h, .inr (3, [.ref t_letters_a, .int t_length, .int (w23 + (1 : Int32))])), (t_letters_a, .inl (cI, 70, .inl t_letters))] := hD
          refine lv_iconst (v := 0) hx hb dX3_readRules_120 (by decide) ?_
          obtain ⟨rfl, rfl, rfl, rfl⟩ := sx_o4 hM
          exact hret _ _ _ _ dX3_readRules_121 (hP.sub [1, 2, 0] rfl) (hD.sub [1, 2, 0] (by decide) rfl) hS
        · replace hM := sx_iff c25 hM
          refine lv_aload_n hx hb dX3_readRules_105 rfl (lv_at hl 1 rfl) ?_
          obtain ⟨r26, hc27, hM⟩ := sx_c1_s hM
          refine sx_iV (As := []) (rest := []) (wc := [(t_h, .inr (3, [.ref t_letters_a, .int t_length, .int w23]))]) (wr := [(c_h, .inr (0, [.ref c_kinds_a, .ref c_seating_a, .ref c_knows_a, .ref c_seals_a, .ref c_telling_a, .int c_persons, .int (r1 - (48 : Int32)), .int r16, .int c_day, .int c_draw])), (t_letters_a, .inl (cI, 70, .inl t_letters))]) (w1 := [(t_h, .inr (3, [.ref t_letters_a, .int t_length, .int w23]))]) ⟨hx, hb, hml, hown, hts⟩ (mtX3_faultHere l D cI cJ cS H.size t_h t_letters_a t_length w23 F r26 hc27) (cwV 0 hts gX3_readRules_X3_faultHere rfl rfl rfl (by decide +kernel) ⟨Nat.le_trans (by decide) hRf, Nat.le_trans (by decide) hRl⟩) hK hN hP hD hS hA [1] [0, 2] rfl (by decide) rfl (by decide) (by decide) rfl rfl rfl rfl hl.1 rfl (Nat.le_of_ble_eq_true rfl) dX3_readRules_106 hRc (fun H locs hP hD hS => ?_)
          have hP : va_P D vwCl [(c_h, .inr (0, [.ref c_kinds_a, .ref c_seating_a, .ref c_knows_a, .ref c_seals_a, .ref c_telling_a, .int c_persons, .int (r1 - (48 : Int32)), .int r16, .int c_day, .int c_draw])), (t_letters_a, .inl (cI, 70, .inl t_letters)), (t_h, .inr (3, [.ref t_letters_a, .int t_length, .int w23]))] H := hP
          have hD : va_D A [(c_h, .inr (0, [.ref c_kinds_a, .ref c_seating_a, .ref c_knows_a, .ref c_seals_a, .ref c_telling_a, .int c_persons, .int (r1 - (48 : Int32)), .int r16, .int c_day, .int c_draw])), (t_letters_a, .inl (cI, 70, .inl t_letters)), (t_h, .inr (3, [.ref t_letters_a, .int t_length, .int w23]))] := hD
          obtain ⟨rfl, rfl, rfl, rfl⟩ := sx_o4 hM
          exact hret _ _ _ _ dX3_readRules_109 (hP.sub [2, 1, 0] rfl) (hD.sub [2, 1, 0] (by decide) rfl) hS
      · replace hM := sx_ift c21 hM
        refine lv_iload_n hx hb dX3_readRules_94 rfl (lv_at hl 0 rfl) ?_
        obtain ⟨rfl, rfl, rfl, rfl⟩ := sx_o4 hM
        exact hret _ _ _ _ dX3_readRules_95 (hP.sub [1, 2, 0] rfl) (hD.sub [1, 2, 0] (by decide) rfl) hS
    · replace hM := sx_iff c10 hM
      refine lv_aload_n hx hb dX3_readRules_48 rfl (lv_at hl 0 rfl) ?_
      obtain ⟨r28, hc29, hM⟩ := sx_c1_s hM
      refine sx_iV (As := []) (rest := []) (wc := [(t_h, .inr (3, [.ref t_letters_a, .int t_length, .int w8]))]) (wr := [(c_h, .inr (0, [.ref c_kinds_a, .ref c_seating_a, .ref c_knows_a, .ref c_seals_a, .ref c_telling_a, .int c_persons, .int (r1 - (48 : Int32)), .int c_week, .int c_day, .int c_draw])), (t_letters_a, .inl (cI, 70, .inl t_letters))]) (w1 := [(t_h, .inr (3, [.ref t_letters_a, .int t_length, .int w8]))]) ⟨hx, hb, hml, hown, hts⟩ (mtX3_faultHere l D cI cJ cS H.size t_h t_letters_a t_length w8 F r28 hc29) (cwV 0 hts gX3_readRules_X3_faultHere rfl rfl rfl (by decide +kernel) ⟨Nat.le_trans (by decide) hRf, Nat.le_trans (by decide) hRl⟩) hK hN hP hD hS hA [1] [0, 2] rfl (by decide) rfl (by decide) (by decide) rfl rfl rfl rfl hl.1 rfl (Nat.le_of_ble_eq_true rfl) dX3_readRules_49 hRc (fun H locs hP hD hS => ?_)
      have hP : va_P D vwCl [(c_h, .inr (0, [.ref c_kinds_a, .ref c_seating_a, .ref c_knows_a, .ref c_seals_a, .ref c_telling_a, .int c_persons, .int (r1 - (48 : Int32)), .int c_week, .int c_day, .int c_draw])), (t_letters_a, .inl (cI, 70, .inl t_letters)), (t_h, .inr (3, [.ref t_letters_a, .int t_length, .int w8]))] H := hP
      have hD : va_D A [(c_h, .inr (0, [.ref c_kinds_a, .ref c_seating_a, .ref c_knows_a, .ref c_seals_a, .ref c_telling_a, .int c_persons, .int (r1 - (48 : Int32)), .int c_week, .int c_day, .int c_draw])), (t_letters_a, .inl (cI, 70, .inl t_letters)), (t_h, .inr (3, [.ref t_letters_a, .int t_length, .int w8]))] := hD
      obtain ⟨rfl, rfl, rfl, rfl⟩ := sx_o4 hM
      exact hret _ _ _ _ dX3_readRules_52 (hP.sub [2, 1, 0] rfl) (hD.sub [2, 1, 0] (by decide) rfl) hS
  · replace hM := sx_ift c6 hM
    refine lv_aload_n hx hb dX3_readRules_24 rfl (lv_at hl 0 rfl) ?_
    obtain ⟨r30, hc31, hM⟩ := sx_c1_s hM
    refine sx_iV (As := []) (rest := []) (wc := [(t_h, .inr (3, [.ref t_letters_a, .int t_length, .int w2]))]) (wr := [(c_h, .inr (0, [.ref c_kinds_a, .ref c_seating_a, .ref c_knows_a, .ref c_seals_a, .ref c_telling_a, .int c_persons, .int (r1 - (48 : Int32)), .int c_week, .int c_day, .int c_draw])), (t_letters_a, .inl (cI, 70, .inl t_letters))]) (w1 := [(t_h, .inr (3, [.ref t_letters_a, .int t_length, .int w2]))]) ⟨hx, hb, hml, hown, hts⟩ (mtX3_faultHere l D cI cJ cS H.size t_h t_letters_a t_length w2 F r30 hc31) (cwV 0 hts gX3_readRules_X3_faultHere rfl rfl rfl (by decide +kernel) ⟨Nat.le_trans (by decide) hRf, Nat.le_trans (by decide) hRl⟩) hK hN hP hD hS hA [1] [0, 2] rfl (by decide) rfl (by decide) (by decide) rfl rfl rfl rfl hl.1 rfl (Nat.le_of_ble_eq_true rfl) dX3_readRules_25 hRc (fun H locs hP hD hS => ?_)
    have hP : va_P D vwCl [(c_h, .inr (0, [.ref c_kinds_a, .ref c_seating_a, .ref c_knows_a, .ref c_seals_a, .ref c_telling_a, .int c_persons, .int (r1 - (48 : Int32)), .int c_week, .int c_day, .int c_draw])), (t_letters_a, .inl (cI, 70, .inl t_letters)), (t_h, .inr (3, [.ref t_letters_a, .int t_length, .int w2]))] H := hP
    have hD : va_D A [(c_h, .inr (0, [.ref c_kinds_a, .ref c_seating_a, .ref c_knows_a, .ref c_seals_a, .ref c_telling_a, .int c_persons, .int (r1 - (48 : Int32)), .int c_week, .int c_day, .int c_draw])), (t_letters_a, .inl (cI, 70, .inl t_letters)), (t_h, .inr (3, [.ref t_letters_a, .int t_length, .int w2]))] := hD
    obtain ⟨rfl, rfl, rfl, rfl⟩ := sx_o4 hM
    exact hret _ _ _ _ dX3_readRules_28 (hP.sub [2, 1, 0] rfl) (hD.sub [2, 1, 0] (by decide) rfl) hS
set_option maxHeartbeats 4000000 in
set_option maxRecDepth 100000 in
theorem mtX3_readRules (l : Launch) (D : va_G) (cI cJ cS : ClassId) (sz : Nat) (t_h t_letters_a c_h c_kinds_a c_seating_a c_knows_a c_seals_a c_telling_a : Nat) (t_letters : Nat → Int32) (t_length : Int32) (t_at : Int32) (c_persons : Int32) (c_wax : Int32) (c_week : Int32) (c_day : Int32) (c_draw : Int32) (F : Nat) (r0 : Int32) (w_t_at : Int32) (w_c_wax : Int32) (w_c_week : Int32) (hM : fnX3_readRules F t_letters t_length t_at c_wax c_week = some (r0, w_t_at, w_c_wax, w_c_week)) : sx_MI l yX3_readRules wsX3_readRules ({ frames := 2, cells := 0, slots := 0, locals := 44 }) D (sx_T cI cJ cS) sz [.ref t_h, .ref c_h] [(t_h, .inr (3, [.ref t_letters_a, .int t_length, .int t_at])), (t_letters_a, .inl (cI, 70, .inl t_letters)), (c_h, .inr (0, [.ref c_kinds_a, .ref c_seating_a, .ref c_knows_a, .ref c_seals_a, .ref c_telling_a, .int c_persons, .int c_wax, .int c_week, .int c_day, .int c_draw]))] r0 [(t_h, .inr (3, [.ref t_letters_a, .int t_length, .int w_t_at])), (t_letters_a, .inl (cI, 70, .inl t_letters)), (c_h, .inr (0, [.ref c_kinds_a, .ref c_seating_a, .ref c_knows_a, .ref c_seals_a, .ref c_telling_a, .int c_persons, .int w_c_wax, .int w_c_week, .int c_day, .int c_draw]))] := by
  refine Met.ofW (cc := cX3_readRules) (maxL := 3) (ret := (some .int)) (by decide) rfl ?_
  intro p e s m args below meth c s₁ B hml hv
  obtain ⟨rfl, hsz, hN, hP, hK, hD0⟩ := hv
  subst hsz
  have hl := lv_entry ([.ref t_h, .ref c_h]) (n := 3) (Nat.le_of_ble_eq_true rfl)
  rw [lg_entry_eq]
  generalize (lg_sl ([.ref t_h, .ref c_h]) ++ List.replicate (3 - (lg_sl ([.ref t_h, .ref c_h])).length) Slot.unset).toArray = ls at hl ⊢
  exact kwX3_readRules B.exec B.bytes hml (findClass_of_methodNamed B.named) (atoms_spec (ws := wsX3_readRules) B.pre) hN hK (fun q h => Or.inr h) (by decide) (by decide) ⟨Nat.zero_le _, Nat.zero_le _⟩ t_h t_letters_a c_h c_kinds_a c_seating_a c_knows_a c_seals_a c_telling_a t_letters t_length t_at c_persons c_wax c_week c_day c_draw F r0 w_t_at w_c_wax w_c_week hM _ _ _ hl hP hD0.self va_S.rf (fun H1 locs1 ls1 pc1 hd hP hD hS => W.iret (v := r0) B.exec B.bytes B.returns (fun t ht hW => ⟨⟨r0, (), rfl, rfl, by rw [ht]; exact hP, hD⟩, hS.F ht⟩) hS.2.2 hd)

def bdX3_readThings_5 (F : Nat) (x2_ : Int32) (t_letters : Nat → Int32) (t_length : Int32) (c_wax : Int32) (r_ : Int32 → Int32 → Int32 → (Nat → Int64) → (Nat → Int64) → Option (Int32 × (Nat → Int64) × (Nat → Int64))) (x3_ : Int32) (x4_ : Int32) (t_at : Int32) (c_knows : Nat → Int64) (c_seals : Nat → Int64) : Option (Int32 × (Nat → Int64) × (Nat → Int64)) :=
  (if (8 : Int32) ≤ x4_ then (some (t_at, c_knows, c_seals)) else sx_c2 (fnX3_peek F t_letters t_length t_at) (fun (r7 : Int32) (w8 : Int32) => sx_c1 (fnX4_within F (r7 - (48 : Int32)) x3_ (7 : Int32)) (fun (r10 : Int32) => (if r10 = 0 then (some (w8, c_knows, c_seals)) else sx_c2 (fnX3_peek F t_letters t_length w8) (fun (r13 : Int32) (w14 : Int32) => sx_nm (r13 - (48 : Int32)) (fun (v16 : Int32) => sx_c2 (fnX0_learn F c_knows c_seals x2_ v16 c_wax) (fun (w17 : Nat → Int64) (w18 : Nat → Int64) => sx_nm (v16 + (1 : Int32)) (fun (v20 : Int32) => sx_nm (x4_ + (1 : Int32)) (fun (v21 : Int32) => (r_ v20 v21 (w14 + (1 : Int32)) w17 w18))))))))))
def fnX3_readThings (F : Nat) (t_letters : Nat → Int32) (t_length : Int32) (t_at : Int32) (c_knows : Nat → Int64) (c_seals : Nat → Int64) (c_wax : Int32) (a2 : Int32) : Option (Int32 × (Nat → Int64) × (Nat → Int64)) :=
  sx_lp5 (bdX3_readThings_5 F a2 t_letters t_length c_wax) F (0 : Int32) (0 : Int32) t_at c_knows c_seals
set_option maxHeartbeats 4000000 in
set_option maxRecDepth 100000 in
theorem kwX3_readThings {p : Program} {l : Launch} {e : Env} {R : Room} {s : State} {m : MethodId} {args : Array Value} {below : List Frame} {meth : Method} {c : Code} {cells slots : Nat} {Q : State → Prop} {A : Nat → Prop} {H0 : Heap} {D : va_G} {cI cJ cS : ClassId} (hx : p.tables.exec = Jvm.exec) (hb : c.code = cX3_readThings) (hml : c.maxLocals = 6) (hown : s.vm.findClass RX3 = some m.cls) (hts : ∀ w ∈ wsX3_readThings, w.before args s = true) (hN : sx_N s) (hK : va_K D vwCl (sx_T cI cJ cS) s) (hA : ∀ q, H0.size ≤ q → A q) (hRf : 2 ≤ R.frames) (hRl : 45 ≤ R.locals) (hRc : cells ≤ R.cells ∧ slots ≤ R.slots) (t_h t_letters_a c_h c_kinds_a c_seating_a c_knows_a c_seals_a c_telling_a : Nat) (t_letters : Nat → Int32) (t_length : Int32) (t_at : Int32) (c_knows : Nat → Int64) (c_seals : Nat → Int64) (c_persons : Int32) (c_wax : Int32) (c_week : Int32) (c_day : Int32) (c_draw : Int32) (a2 : Int32) (F : Nat) (w_t_at : Int32) (w_c_knows : Nat → Int64) (w_c_seals : Nat → Int64) (hM : fnX3_readThings F t_letters t_length t_at c_knows c_seals c_wax a2 = some (w_t_at, w_c_knows, w_c_seals)) (H : Heap) (locs : List Loc) (ls : Array Slot) (hl : lv_has ls 6 [(0, .ref t_h), (1, .ref c_h), (2, .int a2)]) (hP : va_P D vwCl [(t_h, .inr (3, [.ref t_letters_a, .int t_length, .int t_at])), (t_letters_a, .inl (cI, 70, .inl t_letters)), (c_h, .inr (0, [.ref c_kinds_a, .ref c_seating_a, .ref c_knows_a, .ref c_seals_a, .ref c_telling_a, .int c_persons, .int c_wax, .int c_week, .int c_day, .int c_draw])), (c_knows_a, .inl (cJ, 6, .inr (.inl c_knows))), (c_seals_a, .inl (cJ, 6, .inr (.inl c_seals)))] H) (hD : va_D A [(t_h, .inr (3, [.ref t_letters_a, .int t_length, .int t_at])), (t_letters_a, .inl (cI, 70, .inl t_letters)), (c_h, .inr (0, [.ref c_kinds_a, .ref c_seating_a, .ref c_knows_a, .ref c_seals_a, .ref c_telling_a, .int c_persons, .int c_wax, .int c_week, .int c_day, .int c_draw])), (c_knows_a, .inl (cJ, 6, .inr (.inl c_knows))), (c_seals_a, .inl (cJ, 6, .inr (.inl c_seals)))]) (hS : va_S A H0 H locs)
    (hret : ∀ (H1 : Heap) (locs1 : List Loc) (ls1 : Array Slot) (pc1 : Nat), decode cX3_readThings pc1 = .ok (.return_, 1) → va_P D vwCl [(t_h, .inr (3, [.ref t_letters_a, .int t_length, .int w_t_at])), (t_letters_a, .inl (cI, 70, .inl t_letters)), (c_h, .inr (0, [.ref c_kinds_a, .ref c_seating_a, .ref c_knows_a, .ref c_seals_a, .ref c_telling_a, .int c_persons, .int c_wax, .int c_week, .int c_day, .int c_draw])), (c_knows_a, .inl (cJ, 6, .inr (.inl w_c_knows))), (c_seals_a, .inl (cJ, 6, .inr (.inl w_c_seals)))] H1 → va_D A [(t_h, .inr (3, [.ref t_letters_a, .int t_length, .int w_t_at])), (t_letters_a, .inl (cI, 70, .inl t_letters)), (c_h, .inr (0, [.ref c_kinds_a, .ref c_seating_a, .ref c_knows_a, .ref c_seals_a, .ref c_telling_a, .int c_persons, .int c_wax, .int c_week, .int c_day, .int c_draw])), (c_knows_a, .inl (cJ, 6, .inr (.inl w_c_knows))), (c_seals_a, .inl (cJ, 6, .inr (.inl w_c_seals)))] → va_S A H0 H1 locs1 → W p l e R s m args below meth c H1 locs1 cells slots Q (F0 m pc1 ls1 [])) : W p l e R s m args below meth c H locs cells slots Q (F0 m 0 ls []) := by
  have hf_19 := hts (.fieldLink RX3 19 "SealedLips$Tape" "at" "I") (by decide +kernel)
  have hf_38 := sx_N.f (args := args) hN (show Cond.fieldLinkNest "SealedLips$Tape" 38 "SealedLips$Court" "wax" "I" "SealedLips" ∈ sx_nw by decide +kernel)
  have hin_X0 : ∀ w ∈ wsX00, w ∈ wsX3_readThings := by decide +kernel
  have hin_X3 : ∀ w ∈ wsX30, w ∈ wsX3_readThings := by decide +kernel
  unfold fnX3_readThings at hM
  refine lv_iconst (v := 0) hx hb dX3_readThings_0 (by decide) ?_
  refine lv_istore_n (lv' := [(3, .int (0 : Int32)), (0, .ref t_h), (1, .ref c_h), (2, .int a2)]) hx hb dX3_readThings_1 rfl hl (by decide) rfl (fun ls hl => ?_)
  refine lv_iconst (v := 0) hx hb dX3_readThings_2 (by decide) ?_
  refine lv_istore (lv' := [(4, .int (0 : Int32)), (3, .int (0 : Int32)), (0, .ref t_h), (1, .ref c_h), (2, .int a2)]) hx hb dX3_readThings_3 hl (by decide) rfl (fun ls hl => ?_)
  have lp_5 : ∀ (n : Nat) (x1 : Int32) (x2 : Int32) (z3 : Int32) (z4 : Nat → Int64) (z5 : Nat → Int64) (H : Heap) (locs : List Loc) (ls : Array Slot), sx_lp5 (bdX3_readThings_5 F a2 t_letters t_length c_wax) n x1 x2 z3 z4 z5 = some (w_t_at, w_c_knows, w_c_seals) → lv_has ls 6 [(0, .ref t_h), (1, .ref c_h), (2, .int a2), (3, .int x1), (4, .int x2)] → va_P D vwCl [(t_h, .inr (3, [.ref t_letters_a, .int t_length, .int z3])), (t_letters_a, .inl (cI, 70, .inl t_letters)), (c_h, .inr (0, [.ref c_kinds_a, .ref c_seating_a, .ref c_knows_a, .ref c_seals_a, .ref c_telling_a, .int c_persons, .int c_wax, .int c_week, .int c_day, .int c_draw])), (c_knows_a, .inl (cJ, 6, .inr (.inl z4))), (c_seals_a, .inl (cJ, 6, .inr (.inl z5)))] H → va_D A [(t_h, .inr (3, [.ref t_letters_a, .int t_length, .int z3])), (t_letters_a, .inl (cI, 70, .inl t_letters)), (c_h, .inr (0, [.ref c_kinds_a, .ref c_seating_a, .ref c_knows_a, .ref c_seals_a, .ref c_telling_a, .int c_persons, .int c_wax, .int c_week, .int c_day, .int c_draw])), (c_knows_a, .inl (cJ, 6, .inr (.inl z4))), (c_seals_a, .inl (cJ, 6, .inr (.inl z5)))] → va_S A H0 H locs → W p l e R s m args below meth c H locs cells slots Q (F0 m 5 ls ([])) := by
    intro n
    induction n with
    | zero => intro x1 x2 z3 z4 z5 H locs ls hM; exact (sx_lp5_0 hM).elim
    | succ n ih =>
      intro x1 x2 z3 z4 z5 H locs ls hM hl hP hD hS
      have hM : bdX3_readThings_5 F a2 t_letters t_length c_wax (sx_lp5 (bdX3_readThings_5 F a2 t_letters t_length c_wax) n) x1 x2 z3 z4 z5 = some (w_t_at, w_c_knows, w_c_seals) := hM
      generalize sx_lp5 (bdX3_readThings_5 F a2 t_letters t_length c_wax) n = r_5 at hM ih
      unfold bdX3_readThings_5 at hM
      refine lv_iload hx hb dX3_readThings_5 (lv_at hl 4 rfl) ?_
      refine lv_bipush (v := 8) hx hb dX3_readThings_7 (by decide) ?_
      refine lv_icmp_ge (tgt := 69) hx hb dX3_readThings_9 (by decide) (fun c6 => ?_) (fun c6 => ?_)
      · replace hM := sx_ift c6 hM
        obtain ⟨rfl, rfl, rfl⟩ := sx_o3 hM
        exact hret _ _ _ _ dX3_readThings_69 (hP.sub [0, 1, 2, 3, 4] rfl) (hD.sub [0, 1, 2, 3, 4] (by decide) rfl) hS
      · replace hM := sx_iff c6 hM
        refine lv_aload_n hx hb dX3_readThings_12 rfl (lv_at hl 0 rfl) ?_
        obtain ⟨r7, w8, hc9, hM⟩ := sx_c2_s hM
        refine sx_iV (As := []) (rest := []) (wc := [(t_h, .inr (3, [.ref t_letters_a, .int t_length, .int z3])), (t_letters_a, .inl (cI, 70, .inl t_letters))]) (wr := [(c_h, .inr (0, [.ref c_kinds_a, .ref c_seating_a, .ref c_knows_a, .ref c_seals_a, .ref c_telling_a, .int c_persons, .int c_wax, .int c_week, .int c_day, .int c_draw])), (c_knows_a, .inl (cJ, 6, .inr (.inl z4))), (c_seals_a, .inl (cJ, 6, .inr (.inl z5)))]) (w1 := [(t_h, .inr (3, [.ref t_letters_a, .int t_length, .int w8])), (t_letters_a, .inl (cI, 70, .inl t_letters))]) ⟨hx, hb, hml, hown, hts⟩ (mtX3_peek l D cI cJ cS H.size t_h t_letters_a t_letters t_length z3 F r7 w8 hc9) (cwV 0 hts gX3_readThings_X3_peek rfl rfl rfl (by decide +kernel) ⟨Nat.le_trans (by decide) hRf, Nat.le_trans (by decide) hRl⟩) hK hN hP hD hS hA [0, 1] [2, 3, 4] rfl (by decide) rfl (by decide) (by decide) rfl rfl rfl rfl hl.1 rfl (Nat.le_of_ble_eq_true rfl) dX3_readThings_13 hRc (fun H locs hP hD hS => ?_)
        have hP : va_P D vwCl [(c_h, .inr (0, [.ref c_kinds_a, .ref c_seating_a, .ref c_knows_a, .ref c_seals_a, .ref c_telling_a, .int c_persons, .int c_wax, .int c_week, .int c_day, .int c_draw])), (c_knows_a, .inl (cJ, 6, .inr (.inl z4))), (c_seals_a, .inl (cJ, 6, .inr (.inl z5))), (t_h, .inr (3, [.ref t_letters_a, .int t_length, .int w8])), (t_letters_a, .inl (cI, 70, .inl t_letters))] H := hP
        have hD : va_D A [(c_h, .inr (0, [.ref c_kinds_a, .ref c_seating_a, .ref c_knows_a, .ref c_seals_a, .ref c_telling_a, .int c_persons, .int c_wax, .int c_week, .int c_day, .int c_draw])), (c_knows_a, .inl (cJ, 6, .inr (.inl z4))), (c_seals_a, .inl (cJ, 6, .inr (.inl z5))), (t_h, .inr (3, [.ref t_letters_a, .int t_length, .int w8])), (t_letters_a, .inl (cI, 70, .inl t_letters))] := hD
        refine lv_bipush (v := 48) hx hb dX3_readThings_16 (by decide) ?_
        refine lv_isub hx hb dX3_readThings_18 ?_
        refine lv_iload_n hx hb dX3_readThings_19 rfl (lv_at hl 3 rfl) ?_
        refine lv_bipush (v := 7) hx hb dX3_readThings_20 (by decide) ?_
        obtain ⟨r10, hc11, hM⟩ := sx_c1_s hM
        refine sx_iSN (As := [.int (r7 - (48 : Int32)), .int x1, .int (7 : Int32)]) (rest := []) (wc := []) (wr := [(c_h, .inr (0, [.ref c_kinds_a, .ref c_seating_a, .ref c_knows_a, .ref c_seals_a, .ref c_telling_a, .int c_persons, .int c_wax, .int c_week, .int c_day, .int c_draw])), (c_knows_a, .inl (cJ, 6, .inr (.inl z4))), (c_seals_a, .inl (cJ, 6, .inr (.inl z5))), (t_h, .inr (3, [.ref t_letters_a, .int t_length, .int w8])), (t_letters_a, .inl (cI, 70, .inl t_letters))]) (w1 := []) ⟨hx, hb, hml, hown, hts⟩ (mtX4_within l D cI cJ cS H.size (r7 - (48 : Int32)) x1 (7 : Int32) F r10 hc11) ⟨va_cnB (host := "SealedLips") 3 hts gX3_readThings_X4_within_n41 rfl rfl rfl (hN (.methodLinkNest "SealedLips$Tape" 41 ⟨"SealedLips", "within", "(III)Z"⟩ "SealedLips") (by decide +kernel)) (hts (.initialized RX4) (by decide +kernel)) (by decide +kernel) ⟨Nat.le_trans (by decide) hRf, Nat.le_trans (by decide) hRl⟩, hts (.static yX4_within) (by decide +kernel), trivial⟩ hK hN hP hD hS hA [] [0, 1, 2, 3, 4] rfl (by decide) rfl (by decide) (by decide) rfl hl.1 rfl (Nat.le_of_ble_eq_true rfl) dX3_readThings_22 hRc (fun H locs hP hD hS => ?_)
        have hP : va_P D vwCl [(c_h, .inr (0, [.ref c_kinds_a, .ref c_seating_a, .ref c_knows_a, .ref c_seals_a, .ref c_telling_a, .int c_persons, .int c_wax, .int c_week, .int c_day, .int c_draw])), (c_knows_a, .inl (cJ, 6, .inr (.inl z4))), (c_seals_a, .inl (cJ, 6, .inr (.inl z5))), (t_h, .inr (3, [.ref t_letters_a, .int t_length, .int w8])), (t_letters_a, .inl (cI, 70, .inl t_letters))] H := hP
        have hD : va_D A [(c_h, .inr (0, [.ref c_kinds_a, .ref c_seating_a, .ref c_knows_a, .ref c_seals_a, .ref c_telling_a, .int c_persons, .int c_wax, .int c_week, .int c_day, .int c_draw])), (c_knows_a, .inl (cJ, 6, .inr (.inl z4))), (c_seals_a, .inl (cJ, 6, .inr (.inl z5))), (t_h, .inr (3, [.ref t_letters_a, .int t_length, .int w8])), (t_letters_a, .inl (cI, 70, .inl t_letters))] := hD
        refine lv_if_eq (tgt := 69) hx hb dX3_readThings_25 (by decide) (fun c12 => ?_) (fun c12 => ?_)
        · replace hM := sx_ift c12 hM
          obtain ⟨rfl, rfl, rfl⟩ := sx_o3 hM
          exact hret _ _ _ _ dX3_readThings_69 (hP.sub [3, 4, 0, 1, 2] rfl) (hD.sub [3, 4, 0, 1, 2] (by decide) rfl) hS
        · replace hM := sx_iff c12 hM
          refine lv_aload_n hx hb dX3_readThings_28 rfl (lv_at hl 0 rfl) ?_
          obtain ⟨r13, w14, hc15, hM⟩ := sx_c2_s hM
          refine sx_iV (As := []) (rest := []) (wc := [(t_h, .inr (3, [.ref t_letters_a, .int t_length, .int w8])), (t_letters_a, .inl (cI, 70, .inl t_letters))]) (wr := [(c_h, .inr (0, [.ref c_kinds_a, .ref c_seating_a, .ref c_knows_a, .ref c_seals_a, .ref c_telling_a, .int c_persons, .int c_wax, .int c_week, .int c_day, .int c_draw])), (c_knows_a, .inl (cJ, 6, .inr (.inl z4))), (c_seals_a, .inl (cJ, 6, .inr (.inl z5)))]) (w1 := [(t_h, .inr (3, [.ref t_letters_a, .int t_length, .int w14])), (t_letters_a, .inl (cI, 70, .inl t_letters))]) ⟨hx, hb, hml, hown, hts⟩ (mtX3_peek l D cI cJ cS H.size t_h t_letters_a t_letters t_length w8 F r13 w14 hc15) (cwV 0 hts gX3_readThings_X3_peek rfl rfl rfl (by decide +kernel) ⟨Nat.le_trans (by decide) hRf, Nat.le_trans (by decide) hRl⟩) hK hN hP hD hS hA [3, 4] [0, 1, 2] rfl (by decide) rfl (by decide) (by decide) rfl rfl rfl rfl hl.1 rfl (Nat.le_of_ble_eq_true rfl) dX3_readThings_29 hRc (fun H locs hP hD hS => ?_)
          have hP : va_P D vwCl [(c_h, .inr (0, [.ref c_kinds_a, .ref c_seating_a, .ref c_knows_a, .ref c_seals_a, .ref c_telling_a, .int c_persons, .int c_wax, .int c_week, .int c_day, .int c_draw])), (c_knows_a, .inl (cJ, 6, .inr (.inl z4))), (c_seals_a, .inl (cJ, 6, .inr (.inl z5))), (t_h, .inr (3, [.ref t_letters_a, .int t_length, .int w14])), (t_letters_a, .inl (cI, 70, .inl t_letters))] H := hP
          have hD : va_D A [(c_h, .inr (0, [.ref c_kinds_a, .ref c_seating_a, .ref c_knows_a, .ref c_seals_a, .ref c_telling_a, .int c_persons, .int c_wax, .int c_week, .int c_day, .int c_draw])), (c_knows_a, .inl (cJ, 6, .inr (.inl z4))), (c_seals_a, .inl (cJ, 6, .inr (.inl z5))), (t_h, .inr (3, [.ref t_letters_a, .int t_length, .int w14])), (t_letters_a, .inl (cI, 70, .inl t_letters))] := hD
          refine lv_bipush (v := 48) hx hb dX3_readThings_32 (by decide) ?_
          refine lv_isub hx hb dX3_readThings_34 ?_
          obtain ⟨v16, ev16, hM⟩ := sx_nm_s hM
          refine W.eq (g2 := F0 m 35 ls (.int v16 :: [])) (by subst ev16; rfl) ?_
          refine lv_istore (lv' := [(5, .int v16), (0, .ref t_h), (1, .ref c_h), (2, .int a2), (3, .int x1), (4, .int x2)]) hx hb dX3_readThings_35 hl (by decide) rfl (fun ls hl => ?_)
          refine lv_aload_n hx hb dX3_readThings_37 rfl (lv_at hl 2 rfl) ?_
          refine lv_iload_n hx hb dX3_readThings_38 rfl (lv_at hl 3 rfl) ?_
          refine lv_iload hx hb dX3_readThings_39 (lv_at hl 0 rfl) ?_
          refine lv_aload_n hx hb dX3_readThings_41 rfl (lv_at hl 2 rfl) ?_
          refine va_getN (D := D) (ci := 0) (v := .int c_wax) (C := RX0) (T := TX0) (N := 10) hx hb hts hin_X0 hown hK hP 0 rfl rfl 6 (by decide) hf_38 (fun _ h9 => h9) rfl dX3_readThings_42 ?_
          obtain ⟨w17, w18, hc19, hM⟩ := sx_c2_s hM
          refine sx_vVN (As := [.int a2, .int v16, .int c_wax]) (rest := []) (wc := [(c_h, .inr (0, [.ref c_kinds_a, .ref c_seating_a, .ref c_knows_a, .ref c_seals_a, .ref c_telling_a, .int c_persons, .int c_wax, .int c_week, .int c_day, .int c_draw])), (c_knows_a, .inl (cJ, 6, .inr (.inl z4))), (c_seals_a, .inl (cJ, 6, .inr (.inl z5)))]) (wr := [(t_h, .inr (3, [.ref t_letters_a, .int t_length, .int w14])), (t_letters_a, .inl (cI, 70, .inl t_letters))]) (w1 := [(c_h, .inr (0, [.ref c_kinds_a, .ref c_seating_a, .ref c_knows_a, .ref c_seals_a, .ref c_telling_a, .int c_persons, .int c_wax, .int c_week, .int c_day, .int c_draw])), (c_knows_a, .inl (cJ, 6, .inr (.inl w17))), (c_seals_a, .inl (cJ, 6, .inr (.inl w18)))]) ⟨hx, hb, hml, hown, hts⟩ (mtX0_learn l D cI cJ cS H.size c_h c_kinds_a c_seating_a c_knows_a c_seals_a c_telling_a z4 z5 c_persons c_wax c_week c_day c_draw a2 v16 c_wax F w17 w18 hc19) ⟨va_cnB (host := "SealedLips") 3 hts gX3_readThings_X0_learn_n69 rfl rfl rfl (hN (.methodLinkNest "SealedLips$Tape" 69 ⟨"SealedLips$Court", "learn", "(III)V"⟩ "SealedLips") (by decide +kernel)) (hts (.initialized RX0) (by decide +kernel)) (by decide +kernel) ⟨Nat.le_trans (by decide) hRf, Nat.le_trans (by decide) hRl⟩, hts (.instanceMethod yX0_learn) (by decide +kernel), hts (.selects RX0 yX0_learn yX0_learn) (by decide +kernel)⟩ hK hN hP hD hS hA [0, 1, 2] [3, 4] rfl (by decide) rfl (by decide) (by decide) rfl rfl rfl rfl hl.1 rfl (Nat.le_of_ble_eq_true rfl) dX3_readThings_45 hRc (fun H locs hP hD hS => ?_)
          have hP : va_P D vwCl [(t_h, .inr (3, [.ref t_letters_a, .int t_length, .int w14])), (t_letters_a, .inl (cI, 70, .inl t_letters)), (c_h, .inr (0, [.ref c_kinds_a, .ref c_seating_a, .ref c_knows_a, .ref c_seals_a, .ref c_telling_a, .int c_persons, .int c_wax, .int c_week, .int c_day, .int c_draw])), (c_knows_a, .inl (cJ, 6, .inr (.inl w17))), (c_seals_a, .inl (cJ, 6, .inr (.inl w18)))] H := hP
          have hD : va_D A [(t_h, .inr (3, [.ref t_letters_a, .int t_length, .int w14])), (t_letters_a, .inl (cI, 70, .inl t_letters)), (c_h, .inr (0, [.ref c_kinds_a, .ref c_seating_a, .ref c_knows_a, .ref c_seals_a, .ref c_telling_a, .int c_persons, .int c_wax, .int c_week, .int c_day, .int c_draw])), (c_knows_a, .inl (cJ, 6, .inr (.inl w17))), (c_seals_a, .inl (cJ, 6, .inr (.inl w18)))] := hD
          refine lv_iload hx hb dX3_readThings_48 (lv_at hl 0 rfl) ?_
          refine lv_iconst (v := 1) hx hb dX3_readThings_50 (by decide) ?_
          refine lv_iadd hx hb dX3_readThings_51 ?_
          obtain ⟨v20, ev20, hM⟩ := sx_nm_s hM
          refine W.eq (g2 := F0 m 52 ls (.int v20 :: [])) (by subst ev20; rfl) ?_
          refine lv_istore_n (lv' := [(3, .int v20), (5, .int v16), (0, .ref t_h), (1, .ref c_h), (2, .int a2), (4, .int x2)]) hx hb dX3_readThings_52 rfl hl (by decide) rfl (fun ls hl => ?_)
          refine lv_aload_n hx hb dX3_readThings_53 rfl (lv_at hl 2 rfl) ?_
          refine lv_dup hx hb dX3_readThings_54 rfl ?_
          refine va_get (D := D) (ci := 3) (v := .int w14) (C := RX3) (T := TX3) (N := 3) hx hb hts hin_X3 hown hK hP 0 rfl rfl 2 (by decide) hf_19 (fun _ h9 => h9) rfl dX3_readThings_55 ?_
          refine lv_iconst (v := 1) hx hb dX3_readThings_58 (by decide) ?_
          refine lv_iadd hx hb dX3_readThings_59 ?_
          refine va_put (D := D) (ci := 3) (v := .int (w14 + (1 : Int32))) (ty := .int) (C := RX3) (T := TX3) (N := 3) hx hb hts hin_X3 tyX3 tyX3_ok nmX3 hown hK hP hD hS 0 rfl rfl 2 (by decide) hf_19 (fun _ h9 => h9) rfl (tyX3_ok 2 (by decide)) rfl rfl (Nat.le_of_ble_eq_true rfl) dX3_readThings_60 (fun H locs hP hD hS => ?_)
          have hP : va_P D vwCl [(t_h, .inr (3, [.ref t_letters_a, .int t_length, .int (w14 + (1 : Int32))])), (t_letters_a, .inl (cI, 70, .inl t_letters)), (c_h, .inr (0, [.ref c_kinds_a, .ref c_seating_a, .ref c_knows_a, .ref c_seals_a, .ref c_telling_a, .int c_persons, .int c_wax, .int c_week, .int c_day, .int c_draw])), (c_knows_a, .inl (cJ, 6, .inr (.inl w17))), (c_seals_a, .inl (cJ, 6, .inr (.inl w18)))] H := hP
          have hD : va_D A [(t_h, .inr (3, [.ref t_letters_a, .int t_length, .int (w14 + (1 : Int32))])), (t_letters_a, .inl (cI, 70, .inl t_letters)), (c_h, .inr (0, [.ref c_kinds_a, .ref c_seating_a, .ref c_knows_a, .ref c_seals_a, .ref c_telling_a, .int c_persons, .int c_wax, .int c_week, .int c_day, .int c_draw])), (c_knows_a, .inl (cJ, 6, .inr (.inl w17))), (c_seals_a, .inl (cJ, 6, .inr (.inl w18)))] := hD
          obtain ⟨v21, ev21, hM⟩ := sx_nm_s hM
          refine lv_iinc (v := v21) (lv' := [(4, .int v21), (3, .int v20), (5, .int v16), (0, .ref t_h), (1, .ref c_h), (2, .int a2)]) hx hb dX3_readThings_63 hl (k := 5) rfl (by rw [ev21]; rfl) (by decide) rfl (fun ls hl => ?_)
          refine lv_goto (tgt := 5) hx hb dX3_readThings_66 (by decide) ?_
          exact ih v20 v21 (w14 + (1 : Int32)) w17 w18 _ _ _ hM (lv_sub hl [3, 4, 5, 1, 0] rfl) (hP.sub [0, 1, 2, 3, 4] rfl) (hD.sub [0, 1, 2, 3, 4] (by decide) rfl) hS
  exact lp_5 F (0 : Int32) (0 : Int32) t_at c_knows c_seals _ _ _ hM (lv_sub hl [2, 3, 4, 1, 0] rfl) (hP.sub [0, 1, 2, 3, 4] rfl) (hD.sub [0, 1, 2, 3, 4] (by decide) rfl) hS
set_option maxHeartbeats 4000000 in
set_option maxRecDepth 100000 in
theorem mtX3_readThings (l : Launch) (D : va_G) (cI cJ cS : ClassId) (sz : Nat) (t_h t_letters_a c_h c_kinds_a c_seating_a c_knows_a c_seals_a c_telling_a : Nat) (t_letters : Nat → Int32) (t_length : Int32) (t_at : Int32) (c_knows : Nat → Int64) (c_seals : Nat → Int64) (c_persons : Int32) (c_wax : Int32) (c_week : Int32) (c_day : Int32) (c_draw : Int32) (a2 : Int32) (F : Nat) (w_t_at : Int32) (w_c_knows : Nat → Int64) (w_c_seals : Nat → Int64) (hM : fnX3_readThings F t_letters t_length t_at c_knows c_seals c_wax a2 = some (w_t_at, w_c_knows, w_c_seals)) : sx_MV l yX3_readThings wsX3_readThings ({ frames := 2, cells := 0, slots := 0, locals := 45 }) D (sx_T cI cJ cS) sz [.ref t_h, .ref c_h, .int a2] [(t_h, .inr (3, [.ref t_letters_a, .int t_length, .int t_at])), (t_letters_a, .inl (cI, 70, .inl t_letters)), (c_h, .inr (0, [.ref c_kinds_a, .ref c_seating_a, .ref c_knows_a, .ref c_seals_a, .ref c_telling_a, .int c_persons, .int c_wax, .int c_week, .int c_day, .int c_draw])), (c_knows_a, .inl (cJ, 6, .inr (.inl c_knows))), (c_seals_a, .inl (cJ, 6, .inr (.inl c_seals)))] [(t_h, .inr (3, [.ref t_letters_a, .int t_length, .int w_t_at])), (t_letters_a, .inl (cI, 70, .inl t_letters)), (c_h, .inr (0, [.ref c_kinds_a, .ref c_seating_a, .ref c_knows_a, .ref c_seals_a, .ref c_telling_a, .int c_persons, .int c_wax, .int c_week, .int c_day, .int c_draw])), (c_knows_a, .inl (cJ, 6, .inr (.inl w_c_knows))), (c_seals_a, .inl (cJ, 6, .inr (.inl w_c_seals)))] := by
  refine Met.ofW (cc := cX3_readThings) (maxL := 6) (ret := none) (by decide) rfl ?_
  intro p e s m args below meth c s₁ B hml hv
  obtain ⟨rfl, hsz, hN, hP, hK, hD0⟩ := hv
  subst hsz
  have hl := lv_entry ([.ref t_h, .ref c_h, .int a2]) (n := 6) (Nat.le_of_ble_eq_true rfl)
  rw [lg_entry_eq]
  generalize (lg_sl ([.ref t_h, .ref c_h, .int a2]) ++ List.replicate (6 - (lg_sl ([.ref t_h, .ref c_h, .int a2])).length) Slot.unset).toArray = ls at hl ⊢
  exact kwX3_readThings B.exec B.bytes hml (findClass_of_methodNamed B.named) (atoms_spec (ws := wsX3_readThings) B.pre) hN hK (fun q h => Or.inr h) (by decide) (by decide) ⟨Nat.zero_le _, Nat.zero_le _⟩ t_h t_letters_a c_h c_kinds_a c_seating_a c_knows_a c_seals_a c_telling_a t_letters t_length t_at c_knows c_seals c_persons c_wax c_week c_day c_draw a2 F w_t_at w_c_knows w_c_seals hM _ _ _ hl hP hD0.self va_S.rf (fun H1 locs1 ls1 pc1 hd hP hD hS => W.vret B.exec B.bytes B.returns (fun t ht hW => ⟨⟨(), rfl, trivial, by rw [ht]; exact hP, hD⟩, hS.F ht⟩) hS.2.2 hd)
