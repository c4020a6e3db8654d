def fnX0_become (F : Nat) (c_kinds : Nat → Int32) (c_seating : Nat → Int32) (c_knows : Nat → Int64) (c_seals : Nat → Int64) (c_persons : Int32) (c_wax : Int32) (c_week : Int32) (c_day : Int32) (c_draw : Int32) (o_kinds : Nat → Int32) (o_seating : Nat → Int32) (o_knows : Nat → Int64) (o_seals : Nat → Int64) (o_persons : Int32) (o_wax : Int32) (o_week : Int32) (o_day : Int32) (o_draw : Int32) : Option ((Nat → Int32) × (Nat → Int32) × (Nat → Int64) × (Nat → Int64) × Int32 × Int32 × Int32 × Int32 × Int32) :=
  sx_gd (sx_cp (0 : Int32) (0 : Int32) (6 : Int32) 6 6) (sx_gd (sx_cp (0 : Int32) (0 : Int32) (6 : Int32) 6 6) (sx_gd (sx_cp (0 : Int32) (0 : Int32) (6 : Int32) 6 6) (sx_gd (sx_cp (0 : Int32) (0 : Int32) (6 : Int32) 6 6) ((some ((va_cpy o_kinds c_kinds ((0 : Int32)).toNatClampNeg ((0 : Int32)).toNatClampNeg ((6 : Int32)).toNatClampNeg), (va_cpy o_seating c_seating ((0 : Int32)).toNatClampNeg ((0 : Int32)).toNatClampNeg ((6 : Int32)).toNatClampNeg), (va_cpy o_knows c_knows ((0 : Int32)).toNatClampNeg ((0 : Int32)).toNatClampNeg ((6 : Int32)).toNatClampNeg), (va_cpy o_seals c_seals ((0 : Int32)).toNatClampNeg ((0 : Int32)).toNatClampNeg ((6 : Int32)).toNatClampNeg), o_persons, o_wax, o_week, o_day, o_draw))))))
set_option maxHeartbeats 4000000 in
set_option maxRecDepth 100000 in
theorem kwX0_become {p : Program} {l : Launch} {e : Env} {R : Room} {s : State} {m : MethodId} {args : Array Value} {below : List Frame} {meth : Method} {c : Code} {cells slots : Nat} {Q : State → Prop} {A : Nat → Prop} {H0 : Heap} {D : va_G} {cI cJ cS : ClassId} (hx : p.tables.exec = Jvm.exec) (hb : c.code = cX0_become) (hml : c.maxLocals = 2) (hown : s.vm.findClass RX0 = some m.cls) (hts : ∀ w ∈ wsX0_become, w.before args s = true) (hN : sx_N s) (hK : va_K D vwCl (sx_T cI cJ cS) s) (hA : ∀ q, H0.size ≤ q → A q) (hRf : 1 ≤ R.frames) (hRl : 26 ≤ R.locals) (hRc : cells ≤ R.cells ∧ slots ≤ R.slots) (c_h c_kinds_a c_seating_a c_knows_a c_seals_a c_telling_a o_h o_kinds_a o_seating_a o_knows_a o_seals_a o_telling_a : Nat) (c_kinds : Nat → Int32) (c_seating : Nat → Int32) (c_knows : Nat → Int64) (c_seals : Nat → Int64) (c_persons : Int32) (c_wax : Int32) (c_week : Int32) (c_day : Int32) (c_draw : Int32) (o_kinds : Nat → Int32) (o_seating : Nat → Int32) (o_knows : Nat → Int64) (o_seals : Nat → Int64) (o_persons : Int32) (o_wax : Int32) (o_week : Int32) (o_day : Int32) (o_draw : Int32) (F : Nat) (w_c_kinds : Nat → Int32) (w_c_seating : Nat → Int32) (w_c_knows : Nat → Int64) (w_c_seals : Nat → Int64) (w_c_persons : Int32) (w_c_wax : Int32) (w_c_week : Int32) (w_c_day : Int32) (w_c_draw : Int32) (hM : fnX0_become F c_kinds c_seating c_knows c_seals c_persons c_wax c_week c_day c_draw o_kinds o_seating o_knows o_seals o_persons o_wax o_week o_day o_draw = some (w_c_kinds, w_c_seating, w_c_knows, w_c_seals, w_c_persons, w_c_wax, w_c_week, w_c_day, w_c_draw)) (H : Heap) (locs : List Loc) (ls : Array Slot) (hl : lv_has ls 2 [(0, .ref c_h), (1, .ref o_h)]) (hP : va_P D vwCl [(c_h, .inr (0, [.ref c_kinds_a, .ref c_seating_a, .ref c_knows_a, .ref c_seals_a, .ref c_telling_a, .int c_persons, .int c_wax, .int c_week, .int c_day, .int c_draw])), (c_kinds_a, .inl (cI, 6, .inl c_kinds)), (c_seating_a, .inl (cI, 6, .inl c_seating)), (c_knows_a, .inl (cJ, 6, .inr (.inl c_knows))), (c_seals_a, .inl (cJ, 6, .inr (.inl c_seals))), (o_h, .inr (0, [.ref o_kinds_a, .ref o_seating_a, .ref o_knows_a, .ref o_seals_a, .ref o_telling_a, .int o_persons, .int o_wax, .int o_week, .int o_day, .int o_draw])), (o_kinds_a, .inl (cI, 6, .inl o_kinds)), (o_seating_a, .inl (cI, 6, .inl o_seating)), (o_knows_a, .inl (cJ, 6, .inr (.inl o_knows))), (o_seals_a, .inl (cJ, 6, .inr (.inl o_seals)))] H) (hD : va_D A [(c_h, .inr (0, [.ref c_kinds_a, .ref c_seating_a, .ref c_knows_a, .ref c_seals_a, .ref c_telling_a, .int c_persons, .int c_wax, .int c_week, .int c_day, .int c_draw])), (c_kinds_a, .inl (cI, 6, .inl c_kinds)), (c_seating_a, .inl (cI, 6, .inl c_seating)), (c_knows_a, .inl (cJ, 6, .inr (.inl c_knows))), (c_seals_a, .inl (cJ, 6, .inr (.inl c_seals))), (o_h, .inr (0, [.ref o_kinds_a, .ref o_seating_a, .ref o_knows_a, .ref o_seals_a, .ref o_telling_a, .int o_persons, .int o_wax, .int o_week, .int o_day, .int o_draw])), (o_kinds_a, .inl (cI, 6, .inl o_kinds)), (o_seating_a, .inl (cI, 6, .inl o_seating)), (o_knows_a, .inl (cJ, 6, .inr (.inl o_knows))), (o_seals_a, .inl (cJ, 6, .inr (.inl o_seals)))]) (hS : va_S A H0 H locs)
    (hret : ∀ (H1 : Heap) (locs1 : List Loc) (ls1 : Array Slot) (pc1 : Nat), decode cX0_become pc1 = .ok (.return_, 1) → va_P D vwCl [(c_h, .inr (0, [.ref c_kinds_a, .ref c_seating_a, .ref c_knows_a, .ref c_seals_a, .ref c_telling_a, .int w_c_persons, .int w_c_wax, .int w_c_week, .int w_c_day, .int w_c_draw])), (c_kinds_a, .inl (cI, 6, .inl w_c_kinds)), (c_seating_a, .inl (cI, 6, .inl w_c_seating)), (c_knows_a, .inl (cJ, 6, .inr (.inl w_c_knows))), (c_seals_a, .inl (cJ, 6, .inr (.inl w_c_seals))), (o_h, .inr (0, [.ref o_kinds_a, .ref o_seating_a, .ref o_knows_a, .ref o_seals_a, .ref o_telling_a, .int o_persons, .int o_wax, .int o_week, .int o_day, .int o_draw])), (o_kinds_a, .inl (cI, 6, .inl o_kinds)), (o_seating_a, .inl (cI, 6, .inl o_seating)), (o_knows_a, .inl (cJ, 6, .inr (.inl o_knows))), (o_seals_a, .inl (cJ, 6, .inr (.inl o_seals)))] H1 → va_D A [(c_h, .inr (0, [.ref c_kinds_a, .ref c_seating_a, .ref c_knows_a, .ref c_seals_a, .ref c_telling_a, .int w_c_persons, .int w_c_wax, .int w_c_week, .int w_c_day, .int w_c_draw])), (c_kinds_a, .inl (cI, 6, .inl w_c_kinds)), (c_seating_a, .inl (cI, 6, .inl w_c_seating)), (c_knows_a, .inl (cJ, 6, .inr (.inl w_c_knows))), (c_seals_a, .inl (cJ, 6, .inr (.inl w_c_seals))), (o_h, .inr (0, [.ref o_kinds_a, .ref o_seating_a, .ref o_knows_a, .ref o_seals_a, .ref o_telling_a, .int o_persons, .int o_wax, .int o_week, .int o_day, .int o_draw])), (o_kinds_a, .inl (cI, 6, .inl o_kinds)), (o_seating_a, .inl (cI, 6, .inl o_seating)), (o_knows_a, .inl (cJ, 6, .inr (.inl o_knows))), (o_seals_a, .inl (cJ, 6, .inr (.inl o_seals)))] → va_S A H0 H1 locs1 → W p l e R s m args below meth c H1 locs1 cells slots Q (F0 m pc1 ls1 [])) : W p l e R s m args below meth c H locs cells slots Q (F0 m 0 ls []) := by
  have hf_9 := hts (.fieldLink RX0 9 "SealedLips$Court" "kinds" "[I") (by decide +kernel)
  have hf_15 := hts (.fieldLink RX0 15 "SealedLips$Court" "seating" "[I") (by decide +kernel)
  have hf_18 := hts (.fieldLink RX0 18 "SealedLips$Court" "knows" "[J") (by decide +kernel)
  have hf_22 := hts (.fieldLink RX0 22 "SealedLips$Court" "seals" "[J") (by decide +kernel)
  have hf_28 := hts (.fieldLink RX0 28 "SealedLips$Court" "wax" "I") (by decide +kernel)
  have hf_32 := hts (.fieldLink RX0 32 "SealedLips$Court" "week" "I") (by decide +kernel)
  have hf_35 := hts (.fieldLink RX0 35 "SealedLips$Court" "draw" "I") (by decide +kernel)
  have hf_44 := hts (.fieldLink RX0 44 "SealedLips$Court" "persons" "I") (by decide +kernel)
  have hf_47 := hts (.fieldLink RX0 47 "SealedLips$Court" "day" "I") (by decide +kernel)
  have hin_X0 : ∀ w ∈ wsX00, w ∈ wsX0_become := by decide +kernel
  unfold fnX0_become at hM
  refine lv_aload_n hx hb dX0_become_0 rfl (lv_at hl 1 rfl) ?_
  refine va_get (D := D) (ci := 0) (v := .ref o_kinds_a) (C := RX0) (T := TX0) (N := 10) hx hb hts hin_X0 hown hK hP 5 rfl rfl 0 (by decide) hf_9 (fun _ h9 => h9) rfl dX0_become_1 ?_
  refine lv_iconst (v := 0) hx hb dX0_become_4 (by decide) ?_
  refine lv_aload_n hx hb dX0_become_5 rfl (lv_at hl 0 rfl) ?_
  refine va_get (D := D) (ci := 0) (v := .ref c_kinds_a) (C := RX0) (T := TX0) (N := 10) hx hb hts hin_X0 hown hK hP 0 rfl rfl 0 (by decide) hf_9 (fun _ h9 => h9) rfl dX0_become_6 ?_
  refine lv_iconst (v := 0) hx hb dX0_become_9 (by decide) ?_
  refine lv_bipush (v := 6) hx hb dX0_become_10 (by decide) ?_
  obtain ⟨g1, hM⟩ := sx_gd_s hM
  replace g1 := sx_cp_s g1
  refine va_copyi hx hb (hml.trans hl.1.symm) hown (hts (.methodLink RX0 38 arraycopyName) (by decide +kernel)) (hts (.native arraycopyName) (by decide +kernel)) (hts (.static arraycopyName) (by decide +kernel)) (hts (.initialized "java/lang/System") (by decide +kernel)) hK hP hD hS 6 1 0 0 rfl rfl rfl rfl rfl g1.1 g1.2.1 g1.2.2.1 g1.2.2.2.1 g1.2.2.2.2 (fun _ _ => rfl) (Nat.le_trans (by decide) hRf) (Nat.le_trans (Nat.le_of_ble_eq_true rfl) hRl) dX0_become_12 (fun H locs hP hD hS => ?_)
  have hP : va_P D vwCl [(c_h, .inr (0, [.ref c_kinds_a, .ref c_seating_a, .ref c_knows_a, .ref c_seals_a, .ref c_telling_a, .int c_persons, .int c_wax, .int c_week, .int c_day, .int c_draw])), (c_kinds_a, .inl (cI, 6, .inl (va_cpy o_kinds c_kinds ((0 : Int32)).toNatClampNeg ((0 : Int32)).toNatClampNeg ((6 : Int32)).toNatClampNeg))), (c_seating_a, .inl (cI, 6, .inl c_seating)), (c_knows_a, .inl (cJ, 6, .inr (.inl c_knows))), (c_seals_a, .inl (cJ, 6, .inr (.inl c_seals))), (o_h, .inr (0, [.ref o_kinds_a, .ref o_seating_a, .ref o_knows_a, .ref o_seals_a, .ref o_telling_a, .int o_persons, .int o_wax, .int o_week, .int o_day, .int o_draw])), (o_kinds_a, .inl (cI, 6, .inl o_kinds)), (o_seating_a, .inl (cI, 6, .inl o_seating)), (o_knows_a, .inl (cJ, 6, .inr (.inl o_knows))), (o_seals_a, .inl (cJ, 6, .inr (.inl o_seals)))] H := hP
  have hD : va_D A [(c_h, .inr (0, [.ref c_kinds_a, .ref c_seating_a, .ref c_knows_a, .ref c_seals_a, .ref c_telling_a, .int c_persons, .int c_wax, .int c_week, .int c_day, .int c_draw])), (c_kinds_a, .inl (cI, 6, .inl (va_cpy o_kinds c_kinds ((0 : Int32)).toNatClampNeg ((0 : Int32)).toNatClampNeg ((6 : Int32)).toNatClampNeg))), (c_seating_a, .inl (cI, 6, .inl c_seating)), (c_knows_a, .inl (cJ, 6, .inr (.inl c_knows))), (c_seals_a, .inl (cJ, 6, .inr (.inl c_seals))), (o_h, .inr (0, [.ref o_kinds_a, .ref o_seating_a, .ref o_knows_a, .ref o_seals_a, .ref o_telling_a, .int o_persons, .int o_wax, .int o_week, .int o_day, .int o_draw])), (o_kinds_a, .inl (cI, 6, .inl o_kinds)), (o_seating_a, .inl (cI, 6, .inl o_seating)), (o_knows_a, .inl (cJ, 6, .inr (.inl o_knows))), (o_seals_a, .inl (cJ, 6, .inr (.inl o_seals)))] := hD
  refine lv_aload_n hx hb dX0_become_15 rfl (lv_at hl 1 rfl) ?_
  refine va_get (D := D) (ci := 0) (v := .ref o_seating_a) (C := RX0) (T := TX0) (N := 10) hx hb hts hin_X0 hown hK hP 5 rfl rfl 1 (by decide) hf_15 (fun _ h9 => h9) rfl dX0_become_16 ?_
  refine lv_iconst (v := 0) hx hb dX0_become_19 (by decide) ?_
  refine lv_aload_n hx hb dX0_become_20 rfl (lv_at hl 0 rfl) ?_
  refine va_get (D := D) (ci := 0) (v := .ref c_seating_a) (C := RX0) (T := TX0) (N := 10) hx hb hts hin_X0 hown hK hP 0 rfl rfl 1 (by decide) hf_15 (fun _ h9 => h9) rfl dX0_become_21 ?_
  refine lv_iconst (v := 0) hx hb dX0_become_24 (by decide) ?_
  refine lv_bipush (v := 6) hx hb dX0_become_25 (by decide) ?_
  obtain ⟨g2, hM⟩ := sx_gd_s hM
  replace g2 := sx_cp_s g2
  refine va_copyi hx hb (hml.trans hl.1.symm) hown (hts (.methodLink RX0 38 arraycopyName) (by decide +kernel)) (hts (.native arraycopyName) (by decide +kernel)) (hts (.static arraycopyName) (by decide +kernel)) (hts (.initialized "java/lang/System") (by decide +kernel)) hK hP hD hS 7 2 0 0 rfl rfl rfl rfl rfl g2.1 g2.2.1 g2.2.2.1 g2.2.2.2.1 g2.2.2.2.2 (fun _ _ => rfl) (Nat.le_trans (by decide) hRf) (Nat.le_trans (Nat.le_of_ble_eq_true rfl) hRl) dX0_become_27 (fun H locs hP hD hS => ?_)
  have hP : va_P D vwCl [(c_h, .inr (0, [.ref c_kinds_a, .ref c_seating_a, .ref c_knows_a, .ref c_seals_a, .ref c_telling_a, .int c_persons, .int c_wax, .int c_week, .int c_day, .int c_draw])), (c_kinds_a, .inl (cI, 6, .inl (va_cpy o_kinds c_kinds ((0 : Int32)).toNatClampNeg ((0 : Int32)).toNatClampNeg ((6 : Int32)).toNatClampNeg))), (c_seating_a, .inl (cI, 6, .inl (va_cpy o_seating c_seating ((0 : Int32)).toNatClampNeg ((0 : Int32)).toNatClampNeg ((6 : Int32)).toNatClampNeg))), (c_knows_a, .inl (cJ, 6, .inr (.inl c_knows))), (c_seals_a, .inl (cJ, 6, .inr (.inl c_seals))), (o_h, .inr (0, [.ref o_kinds_a, .ref o_seating_a, .ref o_knows_a, .ref o_seals_a, .ref o_telling_a, .int o_persons, .int o_wax, .int o_week, .int o_day, .int o_draw])), (o_kinds_a, .inl (cI, 6, .inl o_kinds)), (o_seating_a, .inl (cI, 6, .inl o_seating)), (o_knows_a, .inl (cJ, 6, .inr (.inl o_knows))), (o_seals_a, .inl (cJ, 6, .inr (.inl o_seals)))] H := hP
  have hD : va_D A [(c_h, .inr (0, [.ref c_kinds_a, .ref c_seating_a, .ref c_knows_a, .ref c_seals_a, .ref c_telling_a, .int c_persons, .int c_wax, .int c_week, .int c_day, .int c_draw])), (c_kinds_a, .inl (cI, 6, .inl (va_cpy o_kinds c_kinds ((0 : Int32)).toNatClampNeg ((0 : Int32)).toNatClampNeg ((6 : Int32)).toNatClampNeg))), (c_seating_a, .inl (cI, 6, .inl (va_cpy o_seating c_seating ((0 : Int32)).toNatClampNeg ((0 : Int32)).toNatClampNeg ((6 : Int32)).toNatClampNeg))), (c_knows_a, .inl (cJ, 6, .inr (.inl c_knows))), (c_seals_a, .inl (cJ, 6, .inr (.inl c_seals))), (o_h, .inr (0, [.ref o_kinds_a, .ref o_seating_a, .ref o_knows_a, .ref o_seals_a, .ref o_telling_a, .int o_persons, .int o_wax, .int o_week, .int o_day, .int o_draw])), (o_kinds_a, .inl (cI, 6, .inl o_kinds)), (o_seating_a, .inl (cI, 6, .inl o_seating)), (o_knows_a, .inl (cJ, 6, .inr (.inl o_knows))), (o_seals_a, .inl (cJ, 6, .inr (.inl o_seals)))] := hD
  refine lv_aload_n hx hb dX0_become_30 rfl (lv_at hl 1 rfl) ?_
  refine va_get (D := D) (ci := 0) (v := .ref o_knows_a) (C := RX0) (T := TX0) (N := 10) hx hb hts hin_X0 hown hK hP 5 rfl rfl 2 (by decide) hf_18 (fun _ h9 => h9) rfl dX0_become_31 ?_
  refine lv_iconst (v := 0) hx hb dX0_become_34 (by decide) ?_
  refine lv_aload_n hx hb dX0_become_35 rfl (lv_at hl 0 rfl) ?_
  refine va_get (D := D) (ci := 0) (v := .ref c_knows_a) (C := RX0) (T := TX0) (N := 10) hx hb hts hin_X0 hown hK hP 0 rfl rfl 2 (by decide) hf_18 (fun _ h9 => h9) rfl dX0_become_36 ?_
  refine lv_iconst (v := 0) hx hb dX0_become_39 (by decide) ?_
  refine lv_bipush (v := 6) hx hb dX0_become_40 (by decide) ?_
  obtain ⟨g3, hM⟩ := sx_gd_s hM
  replace g3 := sx_cp_s g3
  refine va_copyl hx hb (hml.trans hl.1.symm) hown (hts (.methodLink RX0 38 arraycopyName) (by decide +kernel)) (hts (.native arraycopyName) (by decide +kernel)) (hts (.static arraycopyName) (by decide +kernel)) (hts (.initialized "java/lang/System") (by decide +kernel)) hK hP hD hS 8 3 1 1 rfl rfl rfl rfl rfl g3.1 g3.2.1 g3.2.2.1 g3.2.2.2.1 g3.2.2.2.2 (fun _ _ => rfl) (Nat.le_trans (by decide) hRf) (Nat.le_trans (Nat.le_of_ble_eq_true rfl) hRl) dX0_become_42 (fun H locs hP hD hS => ?_)
  have hP : va_P D vwCl [(c_h, .inr (0, [.ref c_kinds_a, .ref c_seating_a, .ref c_knows_a, .ref c_seals_a, .ref c_telling_a, .int c_persons, .int c_wax, .int c_week, .int c_day, .int c_draw])), (c_kinds_a, .inl (cI, 6, .inl (va_cpy o_kinds c_kinds ((0 : Int32)).toNatClampNeg ((0 : Int32)).toNatClampNeg ((6 : Int32)).toNatClampNeg))), (c_seating_a, .inl (cI, 6, .inl (va_cpy o_seating c_seating ((0 : Int32)).toNatClampNeg ((0 : Int32)).toNatClampNeg ((6 : Int32)).toNatClampNeg))), (c_knows_a, .inl (cJ, 6, .inr (.inl (va_cpy o_knows c_knows ((0 : Int32)).toNatClampNeg ((0 : Int32)).toNatClampNeg ((6 : Int32)).toNatClampNeg)))), (c_seals_a, .inl (cJ, 6, .inr (.inl c_seals))), (o_h, .inr (0, [.ref o_kinds_a, .ref o_seating_a, .ref o_knows_a, .ref o_seals_a, .ref o_telling_a, .int o_persons, .int o_wax, .int o_week, .int o_day, .int o_draw])), (o_kinds_a, .inl (cI, 6, .inl o_kinds)), (o_seating_a, .inl (cI, 6, .inl o_seating)), (o_knows_a, .inl (cJ, 6, .inr (.inl o_knows))), (o_seals_a, .inl (cJ, 6, .inr (.inl o_seals)))] H := hP
  have hD : va_D A [(c_h, .inr (0, [.ref c_kinds_a, .ref c_seating_a, .ref c_knows_a, .ref c_seals_a, .ref c_telling_a, .int c_persons, .int c_wax, .int c_week, .int c_day, .int c_draw])), (c_kinds_a, .inl (cI, 6, .inl (va_cpy o_kinds c_kinds ((0 : Int32)).toNatClampNeg ((0 : Int32)).toNatClampNeg ((6 : Int32)).toNatClampNeg))), (c_seating_a, .inl (cI, 6, .inl (va_cpy o_seating c_seating ((0 : Int32)).toNatClampNeg ((0 : Int32)).toNatClampNeg ((6 : Int32)).toNatClampNeg))), (c_knows_a, .inl (cJ, 6, .inr (.inl (va_cpy o_knows c_knows ((0 : Int32)).toNatClampNeg ((0 : Int32)).toNatClampNeg ((6 : Int32)).toNatClampNeg)))), (c_seals_a, .inl (cJ, 6, .inr (.inl c_seals))), (o_h, .inr (0, [.ref o_kinds_a, .ref o_seating_a, .ref o_knows_a, .ref o_seals_a, .ref o_telling_a, .int o_persons, .int o_wax, .int o_week, .int o_day, .int o_draw])), (o_kinds_a, .inl (cI, 6, .inl o_kinds)), (o_seating_a, .inl (cI, 6, .inl o_seating)), (o_knows_a, .inl (cJ, 6, .inr (.inl o_knows))), (o_seals_a, .inl (cJ, 6, .inr (.inl o_seals)))] := hD
  refine lv_aload_n hx hb dX0_become_45 rfl (lv_at hl 1 rfl) ?_
  refine va_get (D := D) (ci := 0) (v := .ref o_seals_a) (C := RX0) (T := TX0) (N := 10) hx hb hts hin_X0 hown hK hP 5 rfl rfl 3 (by decide) hf_22 (fun _ h9 => h9) rfl dX0_become_46 ?_
  refine lv_iconst (v := 0) hx hb dX0_become_49 (by decide) ?_
  refine lv_aload_n hx hb dX0_become_50 rfl (lv_at hl 0 rfl) ?_
  refine va_get (D := D) (ci := 0) (v := .ref c_seals_a) (C := RX0) (T := TX0) (N := 10) hx hb hts hin_X0 hown hK hP 0 rfl rfl 3 (by decide) hf_22 (fun _ h9 => h9) rfl dX0_become_51 ?_
  refine lv_iconst (v := 0) hx hb dX0_become_54 (by decide) ?_
  refine lv_bipush (v := 6) hx hb dX0_become_55 (by decide) ?_
  obtain ⟨g4, hM⟩ := sx_gd_s hM
  replace g4 := sx_cp_s g4
  refine va_copyl hx hb (hml.trans hl.1.symm) hown (hts (.methodLink RX0 38 arraycopyName) (by decide +kernel)) (hts (.native arraycopyName) (by decide +kernel)) (hts (.static arraycopyName) (by decide +kernel)) (hts (.initialized "java/lang/System") (by decide +kernel)) hK hP hD hS 9 4 1 1 rfl rfl rfl rfl rfl g4.1 g4.2.1 g4.2.2.1 g4.2.2.2.1 g4.2.2.2.2 (fun _ _ => rfl) (Nat.le_trans (by decide) hRf) (Nat.le_trans (Nat.le_of_ble_eq_true rfl) hRl) dX0_become_57 (fun H locs hP hD hS => ?_)
  have hP : va_P D vwCl [(c_h, .inr (0, [.ref c_kinds_a, .ref c_seating_a, .ref c_knows_a, .ref c_seals_a, .ref c_telling_a, .int c_persons, .int c_wax, .int c_week, .int c_day, .int c_draw])), (c_kinds_a, .inl (cI, 6, .inl (va_cpy o_kinds c_kinds ((0 : Int32)).toNatClampNeg ((0 : Int32)).toNatClampNeg ((6 : Int32)).toNatClampNeg))), (c_seating_a, .inl (cI, 6, .inl (va_cpy o_seating c_seating ((0 : Int32)).toNatClampNeg ((0 : Int32)).toNatClampNeg ((6 : Int32)).toNatClampNeg))), (c_knows_a, .inl (cJ, 6, .inr (.inl (va_cpy o_knows c_knows ((0 : Int32)).toNatClampNeg ((0 : Int32)).toNatClampNeg ((6 : Int32)).toNatClampNeg)))), (c_seals_a, .inl (cJ, 6, .inr (.inl (va_cpy o_seals c_seals ((0 : Int32)).toNatClampNeg ((0 : Int32)).toNatClampNeg ((6 : Int32)).toNatClampNeg)))), (o_h, .inr (0, [.ref o_kinds_a, .ref o_seating_a, .ref o_knows_a, .ref o_seals_a, .ref o_telling_a, .int o_persons, .int o_wax, .int o_week, .int o_day, .int o_draw])), (o_kinds_a, .inl (cI, 6, .inl o_kinds)), (o_seating_a, .inl (cI, 6, .inl o_seating)), (o_knows_a, .inl (cJ, 6, .inr (.inl o_knows))), (o_seals_a, .inl (cJ, 6, .inr (.inl o_seals)))] H := hP
  have hD : va_D A [(c_h, .inr (0, [.ref c_kinds_a, .ref c_seating_a, .ref c_knows_a, .ref c_seals_a, .ref c_telling_a, .int c_persons, .int c_wax, .int c_week, .int c_day, .int c_draw])), (c_kinds_a, .inl (cI, 6, .inl (va_cpy o_kinds c_kinds ((0 : Int32)).toNatClampNeg ((0 : Int32)).toNatClampNeg ((6 : Int32)).toNatClampNeg))), (c_seating_a, .inl (cI, 6, .inl (va_cpy o_seating c_seating ((0 : Int32)).toNatClampNeg ((0 : Int32)).toNatClampNeg ((6 : Int32)).toNatClampNeg))), (c_knows_a, .inl (cJ, 6, .inr (.inl (va_cpy o_knows c_knows ((0 : Int32)).toNatClampNeg ((0 : Int32)).toNatClampNeg ((6 : Int32)).toNatClampNeg)))), (c_seals_a, .inl (cJ, 6, .inr (.inl (va_cpy o_seals c_seals ((0 : Int32)).toNatClampNeg ((0 : Int32)).toNatClampNeg ((6 : Int32)).toNatClampNeg)))), (o_h, .inr (0, [.ref o_kinds_a, .ref o_seating_a, .ref o_knows_a, .ref o_seals_a, .ref o_telling_a, .int o_persons, .int o_wax, .int o_week, .int o_day, .int o_draw])), (o_kinds_a, .inl (cI, 6, .inl o_kinds)), (o_seating_a, .inl (cI, 6, .inl o_seating)), (o_knows_a, .inl (cJ, 6, .inr (.inl o_knows))), (o_seals_a, .inl (cJ, 6, .inr (.inl o_seals)))] := hD
  refine lv_aload_n hx hb dX0_become_60 rfl (lv_at hl 0 rfl) ?_
  refine lv_aload_n hx hb dX0_become_61 rfl (lv_at hl 1 rfl) ?_
  refine va_get (D := D) (ci := 0) (v := .int o_persons) (C := RX0) (T := TX0) (N := 10) hx hb hts hin_X0 hown hK hP 5 rfl rfl 5 (by decide) hf_44 (fun _ h9 => h9) rfl dX0_become_62 ?_
  refine va_put (D := D) (ci := 0) (v := .int o_persons) (ty := .int) (C := RX0) (T := TX0) (N := 10) hx hb hts hin_X0 tyX0 tyX0_ok nmX0 hown hK hP hD hS 0 rfl rfl 5 (by decide) hf_44 (fun _ h9 => h9) rfl (tyX0_ok 5 (by decide)) rfl rfl (Nat.le_of_ble_eq_true rfl) dX0_become_65 (fun H locs hP hD hS => ?_)
  have hP : va_P D vwCl [(c_h, .inr (0, [.ref c_kinds_a, .ref c_seating_a, .ref c_knows_a, .ref c_seals_a, .ref c_telling_a, .int o_persons, .int c_wax, .int c_week, .int c_day, .int c_draw])), (c_kinds_a, .inl (cI, 6, .inl (va_cpy o_kinds c_kinds ((0 : Int32)).toNatClampNeg ((0 : Int32)).toNatClampNeg ((6 : Int32)).toNatClampNeg))), (c_seating_a, .inl (cI, 6, .inl (va_cpy o_seating c_seating ((0 : Int32)).toNatClampNeg ((0 : Int32)).toNatClampNeg ((6 : Int32)).toNatClampNeg))), (c_knows_a, .inl (cJ, 6, .inr (.inl (va_cpy o_knows c_knows ((0 : Int32)).toNatClampNeg ((0 : Int32)).toNatClampNeg ((6 : Int32)).toNatClampNeg)))), (c_seals_a, .inl (cJ, 6, .inr (.inl (va_cpy o_seals c_seals ((0 : Int32)).toNatClampNeg ((0 : Int32)).toNatClampNeg ((6 : Int32)).toNatClampNeg)))), (o_h, .inr (0, [.ref o_kinds_a, .ref o_seating_a, .ref o_knows_a, .ref o_seals_a, .ref o_telling_a, .int o_persons, .int o_wax, .int o_week, .int o_day, .int o_draw])), (o_kinds_a, .inl (cI, 6, .inl o_kinds)), (o_seating_a, .inl (cI, 6, .inl o_seating)), (o_knows_a, .inl (cJ, 6, .inr (.inl o_knows))), (o_seals_a, .inl (cJ, 6, .inr (.inl o_seals)))] H := hP
  have hD : va_D A [(c_h, .inr (0, [.ref c_kinds_a, .ref c_seating_a, .ref c_knows_a, .ref c_seals_a, .ref c_telling_a, .int o_persons, .int c_wax, .int c_week, .int c_day, .int c_draw])), (c_kinds_a, .inl (cI, 6, .inl (va_cpy o_kinds c_kinds ((0 : Int32)).toNatClampNeg ((0 : Int32)).toNatClampNeg ((6 : Int32)).toNatClampNeg))), (c_seating_a, .inl (cI, 6, .inl (va_cpy o_seating c_seating ((0 : Int32)).toNatClampNeg ((0 : Int32)).toNatClampNeg ((6 : Int32)).toNatClampNeg))), (c_knows_a, .inl (cJ, 6, .inr (.inl (va_cpy o_knows c_knows ((0 : Int32)).toNatClampNeg ((0 : Int32)).toNatClampNeg ((6 : Int32)).toNatClampNeg)))), (c_seals_a, .inl (cJ, 6, .inr (.inl (va_cpy o_seals c_seals ((0 : Int32)).toNatClampNeg ((0 : Int32)).toNatClampNeg ((6 : Int32)).toNatClampNeg)))), (o_h, .inr (0, [.ref o_kinds_a, .ref o_seating_a, .ref o_knows_a, .ref o_seals_a, .ref o_telling_a, .int o_persons, .int o_wax, .int o_week, .int o_day, .int o_draw])), (o_kinds_a, .inl (cI, 6, .inl o_kinds)), (o_seating_a, .inl (cI, 6, .inl o_seating)), (o_knows_a, .inl (cJ, 6, .inr (.inl o_knows))), (o_seals_a, .inl (cJ, 6, .inr (.inl o_seals)))] := hD
  refine lv_aload_n hx hb dX0_become_68 rfl (lv_at hl 0 rfl) ?_
  refine lv_aload_n hx hb dX0_become_69 rfl (lv_at hl 1 rfl) ?_
  refine va_get (D := D) (ci := 0) (v := .int o_wax) (C := RX0) (T := TX0) (N := 10) hx hb hts hin_X0 hown hK hP 5 rfl rfl 6 (by decide) hf_28 (fun _ h9 => h9) rfl dX0_become_70 ?_
  refine va_put (D := D) (ci := 0) (v := .int o_wax) (ty := .int) (C := RX0) (T := TX0) (N := 10) hx hb hts hin_X0 tyX0 tyX0_ok nmX0 hown hK hP hD hS 0 rfl rfl 6 (by decide) hf_28 (fun _ h9 => h9) rfl (tyX0_ok 6 (by decide)) rfl rfl (Nat.le_of_ble_eq_true rfl) dX0_become_73 (fun H locs hP hD hS => ?_)
  have hP : va_P D vwCl [(c_h, .inr (0, [.ref c_kinds_a, .ref c_seating_a, .ref c_knows_a, .ref c_seals_a, .ref c_telling_a, .int o_persons, .int o_wax, .int c_week, .int c_day, .int c_draw])), (c_kinds_a, .inl (cI, 6, .inl (va_cpy o_kinds c_kinds ((0 : Int32)).toNatClampNeg ((0 : Int32)).toNatClampNeg ((6 : Int32)).toNatClampNeg))), (c_seating_a, .inl (cI, 6, .inl (va_cpy o_seating c_seating ((0 : Int32)).toNatClampNeg ((0 : Int32)).toNatClampNeg ((6 : Int32)).toNatClampNeg))), (c_knows_a, .inl (cJ, 6, .inr (.inl (va_cpy o_knows c_knows ((0 : Int32)).toNatClampNeg ((0 : Int32)).toNatClampNeg ((6 : Int32)).toNatClampNeg)))), (c_seals_a, .inl (cJ, 6, .inr (.inl (va_cpy o_seals c_seals ((0 : Int32)).toNatClampNeg ((0 : Int32)).toNatClampNeg ((6 : Int32)).toNatClampNeg)))), (o_h, .inr (0, [.ref o_kinds_a, .ref o_seating_a, .ref o_knows_a, .ref o_seals_a, .ref o_telling_a, .int o_persons, .int o_wax, .int o_week, .int o_day, .int o_draw])), (o_kinds_a, .inl (cI, 6, .inl o_kinds)), (o_seating_a, .inl (cI, 6, .inl o_seating)), (o_knows_a, .inl (cJ, 6, .inr (.inl o_knows))), (o_seals_a, .inl (cJ, 6, .inr (.inl o_seals)))] H := hP
  have hD : va_D A [(c_h, .inr (0, [.ref c_kinds_a, .ref c_seating_a, .ref c_knows_a, .ref c_seals_a, .ref c_telling_a, .int o_persons, .int o_wax, .int c_week, .int c_day, .int c_draw])), (c_kinds_a, .inl (cI, 6, .inl (va_cpy o_kinds c_kinds ((0 : Int32)).toNatClampNeg ((0 : Int32)).toNatClampNeg ((6 : Int32)).toNatClampNeg))), (c_seating_a, .inl (cI, 6, .inl (va_cpy o_seating c_seating ((0 : Int32)).toNatClampNeg ((0 : Int32)).toNatClampNeg ((6 : Int32)).toNatClampNeg))), (c_knows_a, .inl (cJ, 6, .inr (.inl (va_cpy o_knows c_knows ((0 : Int32)).toNatClampNeg ((0 : Int32)).toNatClampNeg ((6 : Int32)).toNatClampNeg)))), (c_seals_a, .inl (cJ, 6, .inr (.inl (va_cpy o_seals c_seals ((0 : Int32)).toNatClampNeg ((0 : Int32)).toNatClampNeg ((6 : Int32)).toNatClampNeg)))), (o_h, .inr (0, [.ref o_kinds_a, .ref o_seating_a, .ref o_knows_a, .ref o_seals_a, .ref o_telling_a, .int o_persons, .int o_wax, .int o_week, .int o_day, .int o_draw])), (o_kinds_a, .inl (cI, 6, .inl o_kinds)), (o_seating_a, .inl (cI, 6, .inl o_seating)), (o_knows_a, .inl (cJ, 6, .inr (.inl o_knows))), (o_seals_a, .inl (cJ, 6, .inr (.inl o_seals)))] := hD
  refine lv_aload_n hx hb dX0_become_76 rfl (lv_at hl 0 rfl) ?_
  refine lv_aload_n hx hb dX0_become_77 rfl (lv_at hl 1 rfl) ?_
  refine va_get (D := D) (ci := 0) (v := .int o_week) (C := RX0) (T := TX0) (N := 10) hx hb hts hin_X0 hown hK hP 5 rfl rfl 7 (by decide) hf_32 (fun _ h9 => h9) rfl dX0_become_78 ?_
  refine va_put (D := D) (ci := 0) (v := .int o_week) (ty := .int) (C := RX0) (T := TX0) (N := 10) hx hb hts hin_X0 tyX0 tyX0_ok nmX0 hown hK hP hD hS 0 rfl rfl 7 (by decide) hf_32 (fun _ h9 => h9) rfl (tyX0_ok 7 (by decide)) rfl rfl (Nat.le_of_ble_eq_true rfl) dX0_become_81 (fun H locs hP hD hS => ?_)
  have hP : va_P D vwCl [(c_h, .inr (0, [.ref c_kinds_a, .ref c_seating_a, .ref c_knows_a, .ref c_seals_a, .ref c_telling_a, .int o_persons, .int o_wax, .int o_week, .int c_day, .int c_draw])), (c_kinds_a, .inl (cI, 6, .inl (va_cpy o_kinds c_kinds ((0 : Int32)).toNatClampNeg ((0 : Int32)).toNatClampNeg ((6 : Int32)).toNatClampNeg))), (c_seating_a, .inl (cI, 6, .inl (va_cpy o_seating c_seating ((0 : Int32)).toNatClampNeg ((0 : Int32)).toNatClampNeg ((6 : Int32)).toNatClampNeg))), (c_knows_a, .inl (cJ, 6, .inr (.inl (va_cpy o_knows c_knows ((0 : Int32)).toNatClampNeg ((0 : Int32)).toNatClampNeg ((6 : Int32)).toNatClampNeg)))), (c_seals_a, .inl (cJ, 6, .inr (.inl (va_cpy o_seals c_seals ((0 : Int32)).toNatClampNeg ((0 : Int32)).toNatClampNeg ((6 : Int32)).toNatClampNeg)))), (o_h, .inr (0, [.ref o_kinds_a, .ref o_seating_a, .ref o_knows_a, .ref o_seals_a, .ref o_telling_a, .int o_persons, .int o_wax, .int o_week, .int o_day, .int o_draw])), (o_kinds_a, .inl (cI, 6, .inl o_kinds)), (o_seating_a, .inl (cI, 6, .inl o_seating)), (o_knows_a, .inl (cJ, 6, .inr (.inl o_knows))), (o_seals_a, .inl (cJ, 6, .inr (.inl o_seals)))] H := hP
  have hD : va_D A [(c_h, .inr (0, [.ref c_kinds_a, .ref c_seating_a, .ref c_knows_a, .ref c_seals_a, .ref c_telling_a, .int o_persons, .int o_wax, .int o_week, .int c_day, .int c_draw])), (c_kinds_a, .inl (cI, 6, .inl (va_cpy o_kinds c_kinds ((0 : Int32)).toNatClampNeg ((0 : Int32)).toNatClampNeg ((6 : Int32)).toNatClampNeg))), (c_seating_a, .inl (cI, 6, .inl (va_cpy o_seating c_seating ((0 : Int32)).toNatClampNeg ((0 : Int32)).toNatClampNeg ((6 : Int32)).toNatClampNeg))), (c_knows_a, .inl (cJ, 6, .inr (.inl (va_cpy o_knows c_knows ((0 : Int32)).toNatClampNeg ((0 : Int32)).toNatClampNeg ((6 : Int32)).toNatClampNeg)))), (c_seals_a, .inl (cJ, 6, .inr (.inl (va_cpy o_seals c_seals ((0 : Int32)).toNatClampNeg ((0 : Int32)).toNatClampNeg ((6 : Int32)).toNatClampNeg)))), (o_h, .inr (0, [.ref o_kinds_a, .ref o_seating_a, .ref o_knows_a, .ref o_seals_a, .ref o_telling_a, .int o_persons, .int o_wax, .int o_week, .int o_day, .int o_draw])), (o_kinds_a, .inl (cI, 6, .inl o_kinds)), (o_seating_a, .inl (cI, 6, .inl o_seating)), (o_knows_a, .inl (cJ, 6, .inr (.inl o_knows))), (o_seals_a, .inl (cJ, 6, .inr (.inl o_seals)))] := hD
  refine lv_aload_n hx hb dX0_become_84 rfl (lv_at hl 0 rfl) ?_
  refine lv_aload_n hx hb dX0_become_85 rfl (lv_at hl 1 rfl) ?_
  refine va_get (D := D) (ci := 0) (v := .int o_day) (C := RX0) (T := TX0) (N := 10) hx hb hts hin_X0 hown hK hP 5 rfl rfl 8 (by decide) hf_47 (fun _ h9 => h9) rfl dX0_become_86 ?_
  refine va_put (D := D) (ci := 0) (v := .int o_day) (ty := .int) (C := RX0) (T := TX0) (N := 10) hx hb hts hin_X0 tyX0 tyX0_ok nmX0 hown hK hP hD hS 0 rfl rfl 8 (by decide) hf_47 (fun _ h9 => h9) rfl (tyX0_ok 8 (by decide)) rfl rfl (Nat.le_of_ble_eq_true rfl) dX0_become_89 (fun H locs hP hD hS => ?_)
  have hP : va_P D vwCl [(c_h, .inr (0, [.ref c_kinds_a, .ref c_seating_a, .ref c_knows_a, .ref c_seals_a, .ref c_telling_a, .int o_persons, .int o_wax, .int o_week, .int o_day, .int c_draw])), (c_kinds_a, .inl (cI, 6, .inl (va_cpy o_kinds c_kinds ((0 : Int32)).toNatClampNeg ((0 : Int32)).toNatClampNeg ((6 : Int32)).toNatClampNeg))), (c_seating_a, .inl (cI, 6, .inl (va_cpy o_seating c_seating ((0 : Int32)).toNatClampNeg ((0 : Int32)).toNatClampNeg ((6 : Int32)).toNatClampNeg))), (c_knows_a, .inl (cJ, 6, .inr (.inl (va_cpy o_knows c_knows ((0 : Int32)).toNatClampNeg ((0 : Int32)).toNatClampNeg ((6 : Int32)).toNatClampNeg)))), (c_seals_a, .inl (cJ, 6, .inr (.inl (va_cpy o_seals c_seals ((0 : Int32)).toNatClampNeg ((0 : Int32)).toNatClampNeg ((6 : Int32)).toNatClampNeg)))), (o_h, .inr (0, [.ref o_kinds_a, .ref o_seating_a, .ref o_knows_a, .ref o_seals_a, .ref o_telling_a, .int o_persons, .int o_wax, .int o_week, .int o_day, .int o_draw])), (o_kinds_a, .inl (cI, 6, .inl o_kinds)), (o_seating_a, .inl (cI, 6, .inl o_seating)), (o_knows_a, .inl (cJ, 6, .inr (.inl o_knows))), (o_seals_a, .inl (cJ, 6, .inr (.inl o_seals)))] H := hP
  have hD : va_D A [(c_h, .inr (0, [.ref c_kinds_a, .ref c_seating_a, .ref c_knows_a, .ref c_seals_a, .ref c_telling_a, .int o_persons, .int o_wax, .int o_week, .int o_day, .int c_draw])), (c_kinds_a, .inl (cI, 6, .inl (va_cpy o_kinds c_kinds ((0 : Int32)).toNatClampNeg ((0 : Int32)).toNatClampNeg ((6 : Int32)).toNatClampNeg))), (c_seating_a, .inl (cI, 6, .inl (va_cpy o_seating c_seating ((0 : Int32)).toNatClampNeg ((0 : Int32)).toNatClampNeg ((6 : Int32)).toNatClampNeg))), (c_knows_a, .inl (cJ, 6, .inr (.inl (va_cpy o_knows c_knows ((0 : Int32)).toNatClampNeg ((0 : Int32)).toNatClampNeg ((6 : Int32)).toNatClampNeg)))), (c_seals_a, .inl (cJ, 6, .inr (.inl (va_cpy o_seals c_seals ((0 : Int32)).toNatClampNeg ((0 : Int32)).toNatClampNeg ((6 : Int32)).toNatClampNeg)))), (o_h, .inr (0, [.ref o_kinds_a, .ref o_seating_a, .ref o_knows_a, .ref o_seals_a, .ref o_telling_a, .int o_persons, .int o_wax, .int o_week, .int o_day, .int o_draw])), (o_kinds_a, .inl (cI, 6, .inl o_kinds)), (o_seating_a, .inl (cI, 6, .inl o_seating)), (o_knows_a, .inl (cJ, 6, .inr (.inl o_knows))), (o_seals_a, .inl (cJ, 6, .inr (.inl o_seals)))] := hD
  refine lv_aload_n hx hb dX0_become_92 rfl (lv_at hl 0 rfl) ?_
  refine lv_aload_n hx hb dX0_become_93 rfl (lv_at hl 1 rfl) ?_
  refine va_get (D := D) (ci := 0) (v := .int o_draw) (C := RX0) (T := TX0) (N := 10) hx hb hts hin_X0 hown hK hP 5 rfl rfl 9 (by decide) hf_35 (fun _ h9 => h9) rfl dX0_become_94 ?_
  refine va_put (D := D) (ci := 0) (v := .int o_draw) (ty := .int) (C := RX0) (T := TX0) (N := 10) hx hb hts hin_X0 tyX0 tyX0_ok nmX0 hown hK hP hD hS 0 rfl rfl 9 (by decide) hf_35 (fun _ h9 => h9) rfl (tyX0_ok 9 (by decide)) rfl rfl (Nat.le_of_ble_eq_true rfl) dX0_become_97 (fun H locs hP hD hS => ?_)
  have hP : va_P D vwCl [(c_h, .inr (0, [.ref c_kinds_a, .ref c_seating_a, .ref c_knows_a, .ref c_seals_a, .ref c_telling_a, .int o_persons, .int o_wax, .int o_week, .int o_day, .int o_draw])), (c_kinds_a, .inl (cI, 6, .inl (va_cpy o_kinds c_kinds ((0 : Int32)).toNatClampNeg ((0 : Int32)).toNatClampNeg ((6 : Int32)).toNatClampNeg))), (c_seating_a, .inl (cI, 6, .inl (va_cpy o_seating c_seating ((0 : Int32)).toNatClampNeg ((0 : Int32)).toNatClampNeg ((6 : Int32)).toNatClampNeg))), (c_knows_a, .inl (cJ, 6, .inr (.inl (va_cpy o_knows c_knows ((0 : Int32)).toNatClampNeg ((0 : Int32)).toNatClampNeg ((6 : Int32)).toNatClampNeg)))), (c_seals_a, .inl (cJ, 6, .inr (.inl (va_cpy o_seals c_seals ((0 : Int32)).toNatClampNeg ((0 : Int32)).toNatClampNeg ((6 : Int32)).toNatClampNeg)))), (o_h, .inr (0, [.ref o_kinds_a, .ref o_seating_a, .ref o_knows_a, .ref o_seals_a, .ref o_telling_a, .int o_persons, .int o_wax, .int o_week, .int o_day, .int o_draw])), (o_kinds_a, .inl (cI, 6, .inl o_kinds)), (o_seating_a, .inl (cI, 6, .inl o_seating)), (o_knows_a, .inl (cJ, 6, .inr (.inl o_knows))), (o_seals_a, .inl (cJ, 6, .inr (.inl o_seals)))] H := hP
  have hD : va_D A [(c_h, .inr (0, [.ref c_kinds_a, .ref c_seating_a, .ref c_knows_a, .ref c_seals_a, .ref c_telling_a, .int o_persons, .int o_wax, .int o_week, .int o_day, .int o_draw])), (c_kinds_a, .inl (cI, 6, .inl (va_cpy o_kinds c_kinds ((0 : Int32)).toNatClampNeg ((0 : Int32)).toNatClampNeg ((6 : Int32)).toNatClampNeg))), (c_seating_a, .inl (cI, 6, .inl (va_cpy o_seating c_seating ((0 : Int32)).toNatClampNeg ((0 : Int32)).toNatClampNeg ((6 : Int32)).toNatClampNeg))), (c_knows_a, .inl (cJ, 6, .inr (.inl (va_cpy o_knows c_knows ((0 : Int32)).toNatClampNeg ((0 : Int32)).toNatClampNeg ((6 : Int32)).toNatClampNeg)))), (c_seals_a, .inl (cJ, 6, .inr (.inl (va_cpy o_seals c_seals ((0 : Int32)).toNatClampNeg ((0 : Int32)).toNatClampNeg ((6 : Int32)).toNatClampNeg)))), (o_h, .inr (0, [.ref o_kinds_a, .ref o_seating_a, .ref o_knows_a, .ref o_seals_a, .ref o_telling_a, .int o_persons, .int o_wax, .int o_week, .int o_day, .int o_draw])), (o_kinds_a, .inl (cI, 6, .inl o_kinds)), (o_seating_a, .inl (cI, 6, .inl o_seating)), (o_knows_a, .inl (cJ, 6, .inr (.inl o_knows))), (o_seals_a, .inl (cJ, 6, .inr (.inl o_seals)))] := hD
  obtain ⟨rfl, rfl, rfl, rfl, rfl, rfl, rfl, rfl, rfl⟩ := sx_o9 hM
  exact hret _ _ _ _ dX0_become_100 (hP.sub [0, 1, 2, 3, 4, 5, 6, 7, 8, 9] rfl) (hD.sub [0, 1, 2, 3, 4, 5, 6, 7, 8, 9] (by decide) rfl) hS
set_option maxHeartbeats 4000000 in
set_option maxRecDepth 100000 in
theorem mtX0_become (l : Launch) (D : va_G) (cI cJ cS : ClassId) (sz : Nat) (c_h c_kinds_a c_seating_a c_knows_a c_seals_a c_telling_a o_h o_kinds_a o_seating_a o_knows_a o_seals_a o_telling_a : Nat) (c_kinds : Nat → Int32) (c_seating : Nat → Int32) (c_knows : Nat → Int64) (c_seals : Nat → Int64) (c_persons : Int32) (c_wax : Int32) (c_week : Int32) (c_day : Int32) (c_draw : Int32) (o_kinds : Nat → Int32) (o_seating : Nat → Int32) (o_knows : Nat → Int64) (o_seals : Nat → Int64) (o_persons : Int32) (o_wax : Int32) (o_week : Int32) (o_day : Int32) (o_draw : Int32) (F : Nat) (w_c_kinds : Nat → Int32) (w_c_seating : Nat → Int32) (w_c_knows : Nat → Int64) (w_c_seals : Nat → Int64) (w_c_persons : Int32) (w_c_wax : Int32) (w_c_week : Int32) (w_c_day : Int32) (w_c_draw : Int32) (hM : fnX0_become F c_kinds c_seating c_knows c_seals c_persons c_wax c_week c_day c_draw o_kinds o_seating o_knows o_seals o_persons o_wax o_week o_day o_draw = some (w_c_kinds, w_c_seating, w_c_knows, w_c_seals, w_c_persons, w_c_wax, w_c_week, w_c_day, w_c_draw)) : sx_MV l yX0_become wsX0_become ({ frames := 1, cells := 0, slots := 0, locals := 26 }) D (sx_T cI cJ cS) sz [.ref c_h, .ref o_h] [(c_h, .inr (0, [.ref c_kinds_a, .ref c_seating_a, .ref c_knows_a, .ref c_seals_a, .ref c_telling_a, .int c_persons, .int c_wax, .int c_week, .int c_day, .int c_draw])), (c_kinds_a, .inl (cI, 6, .inl c_kinds)), (c_seating_a, .inl (cI, 6, .inl c_seating)), (c_knows_a, .inl (cJ, 6, .inr (.inl c_knows))), (c_seals_a, .inl (cJ, 6, .inr (.inl c_seals))), (o_h, .inr (0, [.ref o_kinds_a, .ref o_seating_a, .ref o_knows_a, .ref o_seals_a, .ref o_telling_a, .int o_persons, .int o_wax, .int o_week, .int o_day, .int o_draw])), (o_kinds_a, .inl (cI, 6, .inl o_kinds)), (o_seating_a, .inl (cI, 6, .inl o_seating)), (o_knows_a, .inl (cJ, 6, .inr (.inl o_knows))), (o_seals_a, .inl (cJ, 6, .inr (.inl o_seals)))] [(c_h, .inr (0, [.ref c_kinds_a, .ref c_seating_a, .ref c_knows_a, .ref c_seals_a, .ref c_telling_a, .int w_c_persons, .int w_c_wax, .int w_c_week, .int w_c_day, .int w_c_draw])), (c_kinds_a, .inl (cI, 6, .inl w_c_kinds)), (c_seating_a, .inl (cI, 6, .inl w_c_seating)), (c_knows_a, .inl (cJ, 6, .inr (.inl w_c_knows))), (c_seals_a, .inl (cJ, 6, .inr (.inl w_c_seals))), (o_h, .inr (0, [.ref o_kinds_a, .ref o_seating_a, .ref o_knows_a, .ref o_seals_a, .ref o_telling_a, .int o_persons, .int o_wax, .int o_week, .int o_day, .int o_draw])), (o_kinds_a, .inl (cI, 6, .inl o_kinds)), (o_seating_a, .inl (cI, 6, .inl o_seating)), (o_knows_a, .inl (cJ, 6, .inr (.inl o_knows))), (o_seals_a, .inl (cJ, 6, .inr (.inl o_seals)))] := by
  refine Met.ofW (cc := cX0_become) (maxL := 2) (ret := none) (by decide) rfl ?_
  intro p e s m args below meth c s₁ B hml hv
  obtain ⟨rfl, hsz, hN, hP, hK, hD0⟩ := hv
  subst hsz
  have hl := lv_entry ([.ref c_h, .ref o_h]) (n := 2) (Nat.le_of_ble_eq_true rfl)
  rw [lg_entry_eq]
  generalize (lg_sl ([.ref c_h, .ref o_h]) ++ List.replicate (2 - (lg_sl ([.ref c_h, .ref o_h])).length) Slot.unset).toArray = ls at hl ⊢
  exact kwX0_become B.exec B.bytes hml (findClass_of_methodNamed B.named) (atoms_spec (ws := wsX0_become) B.pre) hN hK (fun q h => Or.inr h) (by decide) (by decide) ⟨Nat.zero_le _, Nat.zero_le _⟩ c_h c_kinds_a c_seating_a c_knows_a c_seals_a c_telling_a o_h o_kinds_a o_seating_a o_knows_a o_seals_a o_telling_a c_kinds c_seating c_knows c_seals c_persons c_wax c_week c_day c_draw o_kinds o_seating o_knows o_seals o_persons o_wax o_week o_day o_draw F w_c_kinds w_c_seating w_c_knows w_c_seals w_c_persons w_c_wax w_c_week w_c_day w_c_draw hM _ _ _ hl hP hD0.self va_S.rf (fun H1 locs1 ls1 pc1 hd hP hD hS => W.vret B.exec B.bytes B.returns (fun t ht hW => ⟨⟨(), rfl, trivial, by rw [ht]; exact hP, hD⟩, hS.F ht⟩) hS.2.2 hd)

def fnX0_empty (F : Nat) (c_persons : Int32) (c_day : Int32) : Option (Int32 × Int32) :=
  (some ((0 : Int32), (0 : Int32)))
set_option maxHeartbeats 4000000 in
set_option maxRecDepth 100000 in
theorem kwX0_empty {p : Program} {l : Launch} {e : Env} {R : Room} {s : State} {m : MethodId} {args : Array Value} {below : List Frame} {meth : Method} {c : Code} {cells slots : Nat} {Q : State → Prop} {A : Nat → Prop} {H0 : Heap} {D : va_G} {cI cJ cS : ClassId} (hx : p.tables.exec = Jvm.exec) (hb : c.code = cX0_empty) (hml : c.maxLocals = 1) (hown : s.vm.findClass RX0 = some m.cls) (hts : ∀ w ∈ wsX0_empty, w.before args s = true) (hN : sx_N s) (hK : va_K D vwCl (sx_T cI cJ cS) s) (hA : ∀ q, H0.size ≤ q → A q) (hRf : 0 ≤ R.frames) (hRl : 0 ≤ R.locals) (hRc : cells ≤ R.cells ∧ slots ≤ R.slots) (c_h c_kinds_a c_seating_a c_knows_a c_seals_a c_telling_a : Nat) (c_persons : Int32) (c_wax : Int32) (c_week : Int32) (c_day : Int32) (c_draw : Int32) (F : Nat) (w_c_persons : Int32) (w_c_day : Int32) (hM : fnX0_empty F c_persons c_day = some (w_c_persons, w_c_day)) (H : Heap) (locs : List Loc) (ls : Array Slot) (hl : lv_has ls 1 [(0, .ref c_h)]) (hP : va_P D vwCl [(c_h, .inr (0, [.ref c_kinds_a, .ref c_seating_a, .ref c_knows_a, .ref c_seals_a, .ref c_telling_a, .int c_persons, .int c_wax, .int c_week, .int c_day, .int c_draw]))] H) (hD : va_D A [(c_h, .inr (0, [.ref c_kinds_a, .ref c_seating_a, .ref c_knows_a, .ref c_seals_a, .ref c_telling_a, .int c_persons, .int c_wax, .int c_week, .int c_day, .int c_draw]))]) (hS : va_S A H0 H locs)
    (hret : ∀ (H1 : Heap) (locs1 : List Loc) (ls1 : Array Slot) (pc1 : Nat), decode cX0_empty pc1 = .ok (.return_, 1) → va_P D vwCl [(c_h, .inr (0, [.ref c_kinds_a, .ref c_seating_a, .ref c_knows_a, .ref c_seals_a, .ref c_telling_a, .int w_c_persons, .int c_wax, .int c_week, .int w_c_day, .int c_draw]))] H1 → va_D A [(c_h, .inr (0, [.ref c_kinds_a, .ref c_seating_a, .ref c_knows_a, .ref c_seals_a, .ref c_telling_a, .int w_c_persons, .int c_wax, .int c_week, .int w_c_day, .int c_draw]))] → va_S A H0 H1 locs1 → W p l e R s m args below meth c H1 locs1 cells slots Q (F0 m pc1 ls1 [])) : W p l e R s m args below meth c H locs cells slots Q (F0 m 0 ls []) := by
  have hf_44 := hts (.fieldLink RX0 44 "SealedLips$Court" "persons" "I") (by decide +kernel)
  have hf_47 := hts (.fieldLink RX0 47 "SealedLips$Court" "day" "I") (by decide +kernel)
  have hin_X0 : ∀ w ∈ wsX00, w ∈ wsX0_empty := by decide +kernel
  unfold fnX0_empty at hM
  refine lv_aload_n hx hb dX0_empty_0 rfl (lv_at hl 0 rfl) ?_
  refine lv_iconst (v := 0) hx hb dX0_empty_1 (by decide) ?_
  refine va_put (D := D) (ci := 0) (v := .int (0 : Int32)) (ty := .int) (C := RX0) (T := TX0) (N := 10) hx hb hts hin_X0 tyX0 tyX0_ok nmX0 hown hK hP hD hS 0 rfl rfl 5 (by decide) hf_44 (fun _ h9 => h9) rfl (tyX0_ok 5 (by decide)) rfl rfl (Nat.le_of_ble_eq_true rfl) dX0_empty_2 (fun H locs hP hD hS => ?_)
  have hP : va_P D vwCl [(c_h, .inr (0, [.ref c_kinds_a, .ref c_seating_a, .ref c_knows_a, .ref c_seals_a, .ref c_telling_a, .int (0 : Int32), .int c_wax, .int c_week, .int c_day, .int c_draw]))] H := hP
  have hD : va_D A [(c_h, .inr (0, [.ref c_kinds_a, .ref c_seating_a, .ref c_knows_a, .ref c_seals_a, .ref c_telling_a, .int (0 : Int32), .int c_wax, .int c_week, .int c_day, .int c_draw]))] := hD
  refine lv_aload_n hx hb dX0_empty_5 rfl (lv_at hl 0 rfl) ?_
  refine lv_iconst (v := 0) hx hb dX0_empty_6 (by decide) ?_
  refine va_put (D := D) (ci := 0) (v := .int (0 : Int32)) (ty := .int) (C := RX0) (T := TX0) (N := 10) hx hb hts hin_X0 tyX0 tyX0_ok nmX0 hown hK hP hD hS 0 rfl rfl 8 (by decide) hf_47 (fun _ h9 => h9) rfl (tyX0_ok 8 (by decide)) rfl rfl (Nat.le_of_ble_eq_true rfl) dX0_empty_7 (fun H locs hP hD hS => ?_)
  have hP : va_P D vwCl [(c_h, .inr (0, [.ref c_kinds_a, .ref c_seating_a, .ref c_knows_a, .ref c_seals_a, .ref c_telling_a, .int (0 : Int32), .int c_wax, .int c_week, .int (0 : Int32), .int c_draw]))] H := hP
  have hD : va_D A [(c_h, .inr (0, [.ref c_kinds_a, .ref c_seating_a, .ref c_knows_a, .ref c_seals_a, .ref c_telling_a, .int (0 : Int32), .int c_wax, .int c_week, .int (0 : Int32), .int c_draw]))] := hD
  obtain ⟨rfl, rfl⟩ := sx_o2 hM
  exact hret _ _ _ _ dX0_empty_10 (hP.sub [0] rfl) (hD.sub [0] (by decide) rfl) hS
set_option maxHeartbeats 4000000 in
set_option maxRecDepth 100000 in
theorem mtX0_empty (l : Launch) (D : va_G) (cI cJ cS : ClassId) (sz : Nat) (c_h c_kinds_a c_seating_a c_knows_a c_seals_a c_telling_a : Nat) (c_persons : Int32) (c_wax : Int32) (c_week : Int32) (c_day : Int32) (c_draw : Int32) (F : Nat) (w_c_persons : Int32) (w_c_day : Int32) (hM : fnX0_empty F c_persons c_day = some (w_c_persons, w_c_day)) : sx_MV l yX0_empty wsX0_empty ({ frames := 0, cells := 0, slots := 0, locals := 0 }) D (sx_T cI cJ cS) sz [.ref c_h] [(c_h, .inr (0, [.ref c_kinds_a, .ref c_seating_a, .ref c_knows_a, .ref c_seals_a, .ref c_telling_a, .int c_persons, .int c_wax, .int c_week, .int c_day, .int c_draw]))] [(c_h, .inr (0, [.ref c_kinds_a, .ref c_seating_a, .ref c_knows_a, .ref c_seals_a, .ref c_telling_a, .int w_c_persons, .int c_wax, .int c_week, .int w_c_day, .int c_draw]))] := by
  refine Met.ofW (cc := cX0_empty) (maxL := 1) (ret := none) (by decide) rfl ?_
  intro p e s m args below meth c s₁ B hml hv
  obtain ⟨rfl, hsz, hN, hP, hK, hD0⟩ := hv
  subst hsz
  have hl := lv_entry ([.ref c_h]) (n := 1) (Nat.le_of_ble_eq_true rfl)
  rw [lg_entry_eq]
  generalize (lg_sl ([.ref c_h]) ++ List.replicate (1 - (lg_sl ([.ref c_h])).length) Slot.unset).toArray = ls at hl ⊢
  exact kwX0_empty B.exec B.bytes hml (findClass_of_methodNamed B.named) (atoms_spec (ws := wsX0_empty) B.pre) hN hK (fun q h => Or.inr h) (by decide) (by decide) ⟨Nat.zero_le _, Nat.zero_le _⟩ c_h c_kinds_a c_seating_a c_knows_a c_seals_a c_telling_a c_persons c_wax c_week c_day c_draw F w_c_persons w_c_day hM _ _ _ hl hP hD0.self va_S.rf (fun H1 locs1 ls1 pc1 hd hP hD hS => W.vret B.exec B.bytes B.returns (fun t ht hW => ⟨⟨(), rfl, trivial, by rw [ht]; exact hP, hD⟩, hS.F ht⟩) hS.2.2 hd)

def fnX0_seatNew (F : Nat) (c_kinds : Nat → Int32) (c_seating : Nat → Int32) (c_knows : Nat → Int64) (c_seals : Nat → Int64) (c_persons : Int32) (a1 : Int32) : Option (Int32 × (Nat → Int32) × (Nat → Int32) × (Nat → Int64) × (Nat → Int64) × Int32) :=
  sx_gd (sx_ib c_persons 6) (sx_gd (sx_ib c_persons 6) (sx_gd (sx_ib c_persons 6) (sx_gd (sx_ib c_persons 6) ((some (c_persons, (upd c_kinds (c_persons).toNatClampNeg a1), (upd c_seating (c_persons).toNatClampNeg c_persons), (vp_updL c_knows (c_persons).toNatClampNeg (0 : Int64)), (vp_updL c_seals (c_persons).toNatClampNeg (0 : Int64)), (c_persons + (1 : Int32))))))))
set_option maxHeartbeats 4000000 in
set_option maxRecDepth 100000 in
theorem kwX0_seatNew {p : Program} {l : Launch} {e : Env} {R : Room} {s : State} {m : MethodId} {args : Array Value} {below : List Frame} {meth : Method} {c : Code} {cells slots : Nat} {Q : State → Prop} {A : Nat → Prop} {H0 : Heap} {D : va_G} {cI cJ cS : ClassId} (hx : p.tables.exec = Jvm.exec) (hb : c.code = cX0_seatNew) (hml : c.maxLocals = 3) (hown : s.vm.findClass RX0 = some m.cls) (hts : ∀ w ∈ wsX0_seatNew, w.before args s = true) (hN : sx_N s) (hK : va_K D vwCl (sx_T cI cJ cS) s) (hA : ∀ q, H0.size ≤ q → A q) (hRf : 0 ≤ R.frames) (hRl : 0 ≤ R.locals) (hRc : cells ≤ R.cells ∧ slots ≤ R.slots) (c_h c_kinds_a c_seating_a c_knows_a c_seals_a c_telling_a : Nat) (c_kinds : Nat → Int32) (c_seating : Nat → Int32) (c_knows : Nat → Int64) (c_seals : Nat → Int64) (c_persons : Int32) (c_wax : Int32) (c_week : Int32) (c_day : Int32) (c_draw : Int32) (a1 : Int32) (F : Nat) (r0 : Int32) (w_c_kinds : Nat → Int32) (w_c_seating : Nat → Int32) (w_c_knows : Nat → Int64) (w_c_seals : Nat → Int64) (w_c_persons : Int32) (hM : fnX0_seatNew F c_kinds c_seating c_knows c_seals c_persons a1 = some (r0, w_c_kinds, w_c_seating, w_c_knows, w_c_seals, w_c_persons)) (H : Heap) (locs : List Loc) (ls : Array Slot) (hl : lv_has ls 3 [(0, .ref c_h), (1, .int a1)]) (hP : va_P D vwCl [(c_h, .inr (0, [.ref c_kinds_a, .ref c_seating_a, .ref c_knows_a, .ref c_seals_a, .ref c_telling_a, .int c_persons, .int c_wax, .int c_week, .int c_day, .int c_draw])), (c_kinds_a, .inl (cI, 6, .inl c_kinds)), (c_seating_a, .inl (cI, 6, .inl c_seating)), (c_knows_a, .inl (cJ, 6, .inr (.inl c_knows))), (c_seals_a, .inl (cJ, 6, .inr (.inl c_seals)))] H) (hD : va_D A [(c_h, .inr (0, [.ref c_kinds_a, .ref c_seating_a, .ref c_knows_a, .ref c_seals_a, .ref c_telling_a, .int c_persons, .int c_wax, .int c_week, .int c_day, .int c_draw])), (c_kinds_a, .inl (cI, 6, .inl c_kinds)), (c_seating_a, .inl (cI, 6, .inl c_seating)), (c_knows_a, .inl (cJ, 6, .inr (.inl c_knows))), (c_seals_a, .inl (cJ, 6, .inr (.inl c_seals)))]) (hS : va_S A H0 H locs)
    (hret : ∀ (H1 : Heap) (locs1 : List Loc) (ls1 : Array Slot) (pc1 : Nat), decode cX0_seatNew pc1 = .ok (.ireturn, 1) → va_P D vwCl [(c_h, .inr (0, [.ref c_kinds_a, .ref c_seating_a, .ref c_knows_a, .ref c_seals_a, .ref c_telling_a, .int w_c_persons, .int c_wax, .int c_week, .int c_day, .int c_draw])), (c_kinds_a, .inl (cI, 6, .inl w_c_kinds)), (c_seating_a, .inl (cI, 6, .inl w_c_seating)), (c_knows_a, .inl (cJ, 6, .inr (.inl w_c_knows))), (c_seals_a, .inl (cJ, 6, .inr (.inl w_c_seals)))] H1 → va_D A [(c_h, .inr (0, [.ref c_kinds_a, .ref c_seating_a, .ref c_knows_a, .ref c_seals_a, .ref c_telling_a, .int w_c_persons, .int c_wax, .int c_week, .int c_day, .int c_draw])), (c_kinds_a, .inl (cI, 6, .inl w_c_kinds)), (c_seating_a, .inl (cI, 6, .inl w_c_seating)), (c_knows_a, .inl (cJ, 6, .inr (.inl w_c_knows))), (c_seals_a, .inl (cJ, 6, .inr (.inl w_c_seals)))] → va_S A H0 H1 locs1 → W p l e R s m args below meth c H1 locs1 cells slots Q (F0 m pc1 ls1 [.int r0])) : W p l e R s m args below meth c H locs cells slots Q (F0 m 0 ls []) := by
  have hf_9 := hts (.fieldLink RX0 9 "SealedLips$Court" "kinds" "[I") (by decide +kernel)
  have hf_15 := hts (.fieldLink RX0 15 "SealedLips$Court" "seating" "[I") (by decide +kernel)
  have hf_18 := hts (.fieldLink RX0 18 "SealedLips$Court" "knows" "[J") (by decide +kernel)
  have hf_22 := hts (.fieldLink RX0 22 "SealedLips$Court" "seals" "[J") (by decide +kernel)
  have hf_44 := hts (.fieldLink RX0 44 "SealedLips$Court" "persons" "I") (by decide +kernel)
  have hin_X0 : ∀ w ∈ wsX00, w ∈ wsX0_seatNew := by decide +kernel
  unfold fnX0_seatNew at hM
  refine lv_aload_n hx hb dX0_seatNew_0 rfl (lv_at hl 0 rfl) ?_
  refine va_get (D := D) (ci := 0) (v := .int c_persons) (C := RX0) (T := TX0) (N := 10) hx hb hts hin_X0 hown hK hP 0 rfl rfl 5 (by decide) hf_44 (fun _ h9 => h9) rfl dX0_seatNew_1 ?_
  refine lv_istore_n (lv' := [(2, .int c_persons), (0, .ref c_h), (1, .int a1)]) hx hb dX0_seatNew_4 rfl hl (by decide) rfl (fun ls hl => ?_)
  refine lv_aload_n hx hb dX0_seatNew_5 rfl (lv_at hl 1 rfl) ?_
  refine va_get (D := D) (ci := 0) (v := .ref c_kinds_a) (C := RX0) (T := TX0) (N := 10) hx hb hts hin_X0 hown hK hP 0 rfl rfl 0 (by decide) hf_9 (fun _ h9 => h9) rfl dX0_seatNew_6 ?_
  refine lv_iload_n hx hb dX0_seatNew_9 rfl (lv_at hl 0 rfl) ?_
  refine lv_iload_n hx hb dX0_seatNew_10 rfl (lv_at hl 2 rfl) ?_
  obtain ⟨g1, hM⟩ := sx_gd_s hM
  refine va_iast hx hb hK hP hD hS 1 0 rfl rfl (sx_ib_s g1) dX0_seatNew_11 (fun H locs hP hD hS => ?_)
  have hP : va_P D vwCl [(c_h, .inr (0, [.ref c_kinds_a, .ref c_seating_a, .ref c_knows_a, .ref c_seals_a, .ref c_telling_a, .int c_persons, .int c_wax, .int c_week, .int c_day, .int c_draw])), (c_kinds_a, .inl (cI, 6, .inl (upd c_kinds (c_persons).toNatClampNeg a1))), (c_seating_a, .inl (cI, 6, .inl c_seating)), (c_knows_a, .inl (cJ, 6, .inr (.inl c_knows))), (c_seals_a, .inl (cJ, 6, .inr (.inl c_seals)))] H := hP
  have hD : va_D A [(c_h, .inr (0, [.ref c_kinds_a, .ref c_seating_a, .ref c_knows_a, .ref c_seals_a, .ref c_telling_a, .int c_persons, .int c_wax, .int c_week, .int c_day, .int c_draw])), (c_kinds_a, .inl (cI, 6, .inl (upd c_kinds (c_persons).toNatClampNeg a1))), (c_seating_a, .inl (cI, 6, .inl c_seating)), (c_knows_a, .inl (cJ, 6, .inr (.inl c_knows))), (c_seals_a, .inl (cJ, 6, .inr (.inl c_seals)))] := hD
  refine lv_aload_n hx hb dX0_seatNew_12 rfl (lv_at hl 1 rfl) ?_
  refine va_get (D := D) (ci := 0) (v := .ref c_seating_a) (C := RX0) (T := TX0) (N := 10) hx hb hts hin_X0 hown hK hP 0 rfl rfl 1 (by decide) hf_15 (fun _ h9 => h9) rfl dX0_seatNew_13 ?_
  refine lv_iload_n hx hb dX0_seatNew_16 rfl (lv_at hl 0 rfl) ?_
  refine lv_iload_n hx hb dX0_seatNew_17 rfl (lv_at hl 0 rfl) ?_
  obtain ⟨g2, hM⟩ := sx_gd_s hM
  refine va_iast hx hb hK hP hD hS 2 0 rfl rfl (sx_ib_s g2) dX0_seatNew_18 (fun H locs hP hD hS => ?_)
  have hP : va_P D vwCl [(c_h, .inr (0, [.ref c_kinds_a, .ref c_seating_a, .ref c_knows_a, .ref c_seals_a, .ref c_telling_a, .int c_persons, .int c_wax, .int c_week, .int c_day, .int c_draw])), (c_kinds_a, .inl (cI, 6, .inl (upd c_kinds (c_persons).toNatClampNeg a1))), (c_seating_a, .inl (cI, 6, .inl (upd c_seating (c_persons).toNatClampNeg c_persons))), (c_knows_a, .inl (cJ, 6, .inr (.inl c_knows))), (c_seals_a, .inl (cJ, 6, .inr (.inl c_seals)))] H := hP
  have hD : va_D A [(c_h, .inr (0, [.ref c_kinds_a, .ref c_seating_a, .ref c_knows_a, .ref c_seals_a, .ref c_telling_a, .int c_persons, .int c_wax, .int c_week, .int c_day, .int c_draw])), (c_kinds_a, .inl (cI, 6, .inl (upd c_kinds (c_persons).toNatClampNeg a1))), (c_seating_a, .inl (cI, 6, .inl (upd c_seating (c_persons).toNatClampNeg c_persons))), (c_knows_a, .inl (cJ, 6, .inr (.inl c_knows))), (c_seals_a, .inl (cJ, 6, .inr (.inl c_seals)))] := hD
  refine lv_aload_n hx hb dX0_seatNew_19 rfl (lv_at hl 1 rfl) ?_
  refine va_get (D := D) (ci := 0) (v := .ref c_knows_a) (C := RX0) (T := TX0) (N := 10) hx hb hts hin_X0 hown hK hP 0 rfl rfl 2 (by decide) hf_18 (fun _ h9 => h9) rfl dX0_seatNew_20 ?_
  refine lv_iload_n hx hb dX0_seatNew_23 rfl (lv_at hl 0 rfl) ?_
  refine lv_lconst (v := 0) hx hb dX0_seatNew_24 (by decide) ?_
  obtain ⟨g3, hM⟩ := sx_gd_s hM
  refine va_last hx hb hK hP hD hS 3 1 rfl rfl (sx_ib_s g3) dX0_seatNew_25 (fun H locs hP hD hS => ?_)
  have hP : va_P D vwCl [(c_h, .inr (0, [.ref c_kinds_a, .ref c_seating_a, .ref c_knows_a, .ref c_seals_a, .ref c_telling_a, .int c_persons, .int c_wax, .int c_week, .int c_day, .int c_draw])), (c_kinds_a, .inl (cI, 6, .inl (upd c_kinds (c_persons).toNatClampNeg a1))), (c_seating_a, .inl (cI, 6, .inl (upd c_seating (c_persons).toNatClampNeg c_persons))), (c_knows_a, .inl (cJ, 6, .inr (.inl (vp_updL c_knows (c_persons).toNatClampNeg (0 : Int64))))), (c_seals_a, .inl (cJ, 6, .inr (.inl c_seals)))] H := hP
  have hD : va_D A [(c_h, .inr (0, [.ref c_kinds_a, .ref c_seating_a, .ref c_knows_a, .ref c_seals_a, .ref c_telling_a, .int c_persons, .int c_wax, .int c_week, .int c_day, .int c_draw])), (c_kinds_a, .inl (cI, 6, .inl (upd c_kinds (c_persons).toNatClampNeg a1))), (c_seating_a, .inl (cI, 6, .inl (upd c_seating (c_persons).toNatClampNeg c_persons))), (c_knows_a, .inl (cJ, 6, .inr (.inl (vp_updL c_knows (c_persons).toNatClampNeg (0 : Int64))))), (c_seals_a, .inl (cJ, 6, .inr (.inl c_seals)))] := hD
  refine lv_aload_n hx hb dX0_seatNew_26 rfl (lv_at hl 1 rfl) ?_
  refine va_get (D := D) (ci := 0) (v := .ref c_seals_a) (C := RX0) (T := TX0) (N := 10) hx hb hts hin_X0 hown hK hP 0 rfl rfl 3 (by decide) hf_22 (fun _ h9 => h9) rfl dX0_seatNew_27 ?_
  refine lv_iload_n hx hb dX0_seatNew_30 rfl (lv_at hl 0 rfl) ?_
  refine lv_lconst (v := 0) hx hb dX0_seatNew_31 (by decide) ?_
  obtain ⟨g4, hM⟩ := sx_gd_s hM
  refine va_last hx hb hK hP hD hS 4 1 rfl rfl (sx_ib_s g4) dX0_seatNew_32 (fun H locs hP hD hS => ?_)
  have hP : va_P D vwCl [(c_h, .inr (0, [.ref c_kinds_a, .ref c_seating_a, .ref c_knows_a, .ref c_seals_a, .ref c_telling_a, .int c_persons, .int c_wax, .int c_week, .int c_day, .int c_draw])), (c_kinds_a, .inl (cI, 6, .inl (upd c_kinds (c_persons).toNatClampNeg a1))), (c_seating_a, .inl (cI, 6, .inl (upd c_seating (c_persons).toNatClampNeg c_persons))), (c_knows_a, .inl (cJ, 6, .inr (.inl (vp_updL c_knows (c_persons).toNatClampNeg (0 : Int64))))), (c_seals_a, .inl (cJ, 6, .inr (.inl (vp_updL c_seals (c_persons).toNatClampNeg (0 : Int64)))))] H := hP
  have hD : va_D A [(c_h, .inr (0, [.ref c_kinds_a, .ref c_seating_a, .ref c_knows_a, .ref c_seals_a, .ref c_telling_a, .int c_persons, .int c_wax, .int c_week, .int c_day, .int c_draw])), (c_kinds_a, .inl (cI, 6, .inl (upd c_kinds (c_persons).toNatClampNeg a1))), (c_seating_a, .inl (cI, 6, .inl (upd c_seating (c_persons).toNatClampNeg c_persons))), (c_knows_a, .inl (cJ, 6, .inr (.inl (vp_updL c_knows (c_persons).toNatClampNeg (0 : Int64))))), (c_seals_a, .inl (cJ, 6, .inr (.inl (vp_updL c_seals (c_persons).toNatClampNeg (0 : Int64)))))] := hD
  refine lv_aload_n hx hb dX0_seatNew_33 rfl (lv_at hl 1 rfl) ?_
  refine lv_dup hx hb dX0_seatNew_34 rfl ?_
  refine va_get (D := D) (ci := 0) (v := .int c_persons) (C := RX0) (T := TX0) (N := 10) hx hb hts hin_X0 hown hK hP 0 rfl rfl 5 (by decide) hf_44 (fun _ h9 => h9) rfl dX0_seatNew_35 ?_
  refine lv_iconst (v := 1) hx hb dX0_seatNew_38 (by decide) ?_
  refine lv_iadd hx hb dX0_seatNew_39 ?_
  refine va_put (D := D) (ci := 0) (v := .int (c_persons + (1 : Int32))) (ty := .int) (C := RX0) (T := TX0) (N := 10) hx hb hts hin_X0 tyX0 tyX0_ok nmX0 hown hK hP hD hS 0 rfl rfl 5 (by decide) hf_44 (fun _ h9 => h9) rfl (tyX0_ok 5 (by decide)) rfl rfl (Nat.le_of_ble_eq_true rfl) dX0_seatNew_40 (fun H locs hP hD hS => ?_)
  have hP : va_P D vwCl [(c_h, .inr (0, [.ref c_kinds_a, .ref c_seating_a, .ref c_knows_a, .ref c_seals_a, .ref c_telling_a, .int (c_persons + (1 : Int32)), .int c_wax, .int c_week, .int c_day, .int c_draw])), (c_kinds_a, .inl (cI, 6, .inl (upd c_kinds (c_persons).toNatClampNeg a1))), (c_seating_a, .inl (cI, 6, .inl (upd c_seating (c_persons).toNatClampNeg c_persons))), (c_knows_a, .inl (cJ, 6, .inr (.inl (vp_updL c_knows (c_persons).toNatClampNeg (0 : Int64))))), (c_seals_a, .inl (cJ, 6, .inr (.inl (vp_updL c_seals (c_persons).toNatClampNeg (0 : Int64)))))] H := hP
  have hD : va_D A [(c_h, .inr (0, [.ref c_kinds_a, .ref c_seating_a, .ref c_knows_a, .ref c_seals_a, .ref c_telling_a, .int (c_persons + (1 : Int32)), .int c_wax, .int c_week, .int c_day, .int c_draw])), (c_kinds_a, .inl (cI, 6, .inl (upd c_kinds (c_persons).toNatClampNeg a1))), (c_seating_a, .inl (cI, 6, .inl (upd c_seating (c_persons).toNatClampNeg c_persons))), (c_knows_a, .inl (cJ, 6, .inr (.inl (vp_updL c_knows (c_persons).toNatClampNeg (0 : Int64))))), (c_seals_a, .inl (cJ, 6, .inr (.inl (vp_updL c_seals (c_persons).toNatClampNeg (0 : Int64)))))] := hD
  refine lv_iload_n hx hb dX0_seatNew_43 rfl (lv_at hl 0 rfl) ?_
  obtain ⟨rfl, rfl, rfl, rfl, rfl, rfl⟩ := sx_o6 hM
  exact hret _ _ _ _ dX0_seatNew_44 (hP.sub [0, 1, 2, 3, 4] rfl) (hD.sub [0, 1, 2, 3, 4] (by decide) rfl) hS
set_option maxHeartbeats 4000000 in
set_option maxRecDepth 100000 in
theorem mtX0_seatNew (l : Launch) (D : va_G) (cI cJ cS : ClassId) (sz : Nat) (c_h c_kinds_a c_seating_a c_knows_a c_seals_a c_telling_a : Nat) (c_kinds : Nat → Int32) (c_seating : Nat → Int32) (c_knows : Nat → Int64) (c_seals : Nat → Int64) (c_persons : Int32) (c_wax : Int32) (c_week : Int32) (c_day : Int32) (c_draw : Int32) (a1 : Int32) (F : Nat) (r0 : Int32) (w_c_kinds : Nat → Int32) (w_c_seating : Nat → Int32) (w_c_knows : Nat → Int64) (w_c_seals : Nat → Int64) (w_c_persons : Int32) (hM : fnX0_seatNew F c_kinds c_seating c_knows c_seals c_persons a1 = some (r0, w_c_kinds, w_c_seating, w_c_knows, w_c_seals, w_c_persons)) : sx_MI l yX0_seatNew wsX0_seatNew ({ frames := 0, cells := 0, slots := 0, locals := 0 }) D (sx_T cI cJ cS) sz [.ref c_h, .int a1] [(c_h, .inr (0, [.ref c_kinds_a, .ref c_seating_a, .ref c_knows_a, .ref c_seals_a, .ref c_telling_a, .int c_persons, .int c_wax, .int c_week, .int c_day, .int c_draw])), (c_kinds_a, .inl (cI, 6, .inl c_kinds)), (c_seating_a, .inl (cI, 6, .inl c_seating)), (c_knows_a, .inl (cJ, 6, .inr (.inl c_knows))), (c_seals_a, .inl (cJ, 6, .inr (.inl c_seals)))] r0 [(c_h, .inr (0, [.ref c_kinds_a, .ref c_seating_a, .ref c_knows_a, .ref c_seals_a, .ref c_telling_a, .int w_c_persons, .int c_wax, .int c_week, .int c_day, .int c_draw])), (c_kinds_a, .inl (cI, 6, .inl w_c_kinds)), (c_seating_a, .inl (cI, 6, .inl w_c_seating)), (c_knows_a, .inl (cJ, 6, .inr (.inl w_c_knows))), (c_seals_a, .inl (cJ, 6, .inr (.inl w_c_seals)))] := by
  refine Met.ofW (cc := cX0_seatNew) (maxL := 3) (ret := (some .int)) (by decide) rfl ?_
  intro p e s m args below meth c s₁ B hml hv
  obtain ⟨rfl, hsz, hN, hP, hK, hD0⟩ := hv
  subst hsz
  have hl := lv_entry ([.ref c_h, .int a1]) (n := 3) (Nat.le_of_ble_eq_true rfl)
  rw [lg_entry_eq]
  generalize (lg_sl ([.ref c_h, .int a1]) ++ List.replicate (3 - (lg_sl ([.ref c_h, .int a1])).length) Slot.unset).toArray = ls at hl ⊢
  exact kwX0_seatNew B.exec B.bytes hml (findClass_of_methodNamed B.named) (atoms_spec (ws := wsX0_seatNew) B.pre) hN hK (fun q h => Or.inr h) (by decide) (by decide) ⟨Nat.zero_le _, Nat.zero_le _⟩ c_h c_kinds_a c_seating_a c_knows_a c_seals_a c_telling_a c_kinds c_seating c_knows c_seals c_persons c_wax c_week c_day c_draw a1 F r0 w_c_kinds w_c_seating w_c_knows w_c_seals w_c_persons hM _ _ _ hl hP hD0.self va_S.rf (fun H1 locs1 ls1 pc1 hd hP hD hS => W.iret (v := r0) B.exec B.bytes B.returns (fun t ht hW => ⟨⟨r0, (), rfl, rfl, by rw [ht]; exact hP, hD⟩, hS.F ht⟩) hS.2.2 hd)

def bdX0_placeOf_4 (F : Nat) (x1_ : Int32) (c_seating : Nat → Int32) (c_persons : Int32) (r_ : Int32 → Int32 → Option (Int32)) (x2_ : Int32) (x3_ : Int32) : Option (Int32) :=
  (if c_persons ≤ x3_ then (some (x2_)) else sx_gd (sx_ib x3_ 6) (sx_lt (fun (y5 : Int32) => sx_nm (x3_ + (1 : Int32)) (fun (v6 : Int32) => (r_ y5 v6))) (fun (k_27 : Int32 → Option (Int32)) => (if (c_seating (x3_).toNatClampNeg) = x1_ then (k_27 x3_) else (k_27 x2_)))))
def fnX0_placeOf (F : Nat) (c_seating : Nat → Int32) (c_persons : Int32) (a1 : Int32) : Option (Int32) :=
  sx_lp2 (bdX0_placeOf_4 F a1 c_seating c_persons) F (0 : Int32) (0 : Int32)
set_option maxHeartbeats 4000000 in
set_option maxRecDepth 100000 in
theorem kwX0_placeOf {p : Program} {l : Launch} {e : Env} {R : Room} {s : State} {m : MethodId} {args : Array Value} {below : List Frame} {meth : Method} {c : Code} {cells slots : Nat} {Q : State → Prop} {A : Nat → Prop} {H0 : Heap} {D : va_G} {cI cJ cS : ClassId} (hx : p.tables.exec = Jvm.exec) (hb : c.code = cX0_placeOf) (hml : c.maxLocals = 4) (hown : s.vm.findClass RX0 = some m.cls) (hts : ∀ w ∈ wsX0_placeOf, w.before args s = true) (hN : sx_N s) (hK : va_K D vwCl (sx_T cI cJ cS) s) (hA : ∀ q, H0.size ≤ q → A q) (hRf : 0 ≤ R.frames) (hRl : 0 ≤ R.locals) (hRc : cells ≤ R.cells ∧ slots ≤ R.slots) (c_h c_kinds_a c_seating_a c_knows_a c_seals_a c_telling_a : Nat) (c_seating : Nat → Int32) (c_persons : Int32) (c_wax : Int32) (c_week : Int32) (c_day : Int32) (c_draw : Int32) (a1 : Int32) (F : Nat) (r0 : Int32) (hM : fnX0_placeOf F c_seating c_persons a1 = some r0) (H : Heap) (locs : List Loc) (ls : Array Slot) (hl : lv_has ls 4 [(0, .ref c_h), (1, .int a1)]) (hP : va_P D vwCl [(c_h, .inr (0, [.ref c_kinds_a, .ref c_seating_a, .ref c_knows_a, .ref c_seals_a, .ref c_telling_a, .int c_persons, .int c_wax, .int c_week, .int c_day, .int c_draw])), (c_seating_a, .inl (cI, 6, .inl c_seating))] H) (hD : va_D A [(c_h, .inr (0, [.ref c_kinds_a, .ref c_seating_a, .ref c_knows_a, .ref c_seals_a, .ref c_telling_a, .int c_persons, .int c_wax, .int c_week, .int c_day, .int c_draw])), (c_seating_a, .inl (cI, 6, .inl c_seating))]) (hS : va_S A H0 H locs)
    (hret : ∀ (H1 : Heap) (locs1 : List Loc) (ls1 : Array Slot) (pc1 : Nat), decode cX0_placeOf pc1 = .ok (.ireturn, 1) → va_P D vwCl [(c_h, .inr (0, [.ref c_kinds_a, .ref c_seating_a, .ref c_knows_a, .ref c_seals_a, .ref c_telling_a, .int c_persons, .int c_wax, .int c_week, .int c_day, .int c_draw])), (c_seating_a, .inl (cI, 6, .inl c_seating))] H1 → va_D A [(c_h, .inr (0, [.ref c_kinds_a, .ref c_seating_a, .ref c_knows_a, .ref c_seals_a, .ref c_telling_a, .int c_persons, .int c_wax, .int c_week, .int c_day, .int c_draw])), (c_seating_a, .inl (cI, 6, .inl c_seating))] → va_S A H0 H1 locs1 → W p l e R s m args below meth c H1 locs1 cells slots Q (F0 m pc1 ls1 [.int r0])) : W p l e R s m args below meth c H locs cells slots Q (F0 m 0 ls []) := by
  have hf_15 := hts (.fieldLink RX0 15 "SealedLips$Court" "seating" "[I") (by decide +kernel)
  have hf_44 := hts (.fieldLink RX0 44 "SealedLips$Court" "persons" "I") (by decide +kernel)
  have hin_X0 : ∀ w ∈ wsX00, w ∈ wsX0_placeOf := by decide +kernel
  unfold fnX0_placeOf at hM
  refine lv_iconst (v := 0) hx hb dX0_placeOf_0 (by decide) ?_
  refine lv_istore_n (lv' := [(2, .int (0 : Int32)), (0, .ref c_h), (1, .int a1)]) hx hb dX0_placeOf_1 rfl hl (by decide) rfl (fun ls hl => ?_)
  refine lv_iconst (v := 0) hx hb dX0_placeOf_2 (by decide) ?_
  refine lv_istore_n (lv' := [(3, .int (0 : Int32)), (2, .int (0 : Int32)), (0, .ref c_h), (1, .int a1)]) hx hb dX0_placeOf_3 rfl hl (by decide) rfl (fun ls hl => ?_)
  have lp_4 : ∀ (n : Nat) (x1 : Int32) (x2 : Int32) (H : Heap) (locs : List Loc) (ls : Array Slot), sx_lp2 (bdX0_placeOf_4 F a1 c_seating c_persons) n x1 x2 = some r0 → lv_has ls 4 [(0, .ref c_h), (1, .int a1), (2, .int x1), (3, .int x2)] → va_P D vwCl [(c_h, .inr (0, [.ref c_kinds_a, .ref c_seating_a, .ref c_knows_a, .ref c_seals_a, .ref c_telling_a, .int c_persons, .int c_wax, .int c_week, .int c_day, .int c_draw])), (c_seating_a, .inl (cI, 6, .inl c_seating))] H → va_D A [(c_h, .inr (0, [.ref c_kinds_a, .ref c_seating_a, .ref c_knows_a, .ref c_seals_a, .ref c_telling_a, .int c_persons, .int c_wax, .int c_week, .int c_day, .int c_draw])), (c_seating_a, .inl (cI, 6, .inl c_seating))] → va_S A H0 H locs → W p l e R s m args below meth c H locs cells slots Q (F0 m 4 ls ([])) := by
    intro n
    induction n with
    | zero => intro x1 x2 H locs ls hM; exact (sx_lp2_0 hM).elim
    | succ n ih =>
      intro x1 x2 H locs ls hM hl hP hD hS
      have hM : bdX0_placeOf_4 F a1 c_seating c_persons (sx_lp2 (bdX0_placeOf_4 F a1 c_seating c_persons) n) x1 x2 = some r0 := hM
      generalize sx_lp2 (bdX0_placeOf_4 F a1 c_seating c_persons) n = r_4 at hM ih
      unfold bdX0_placeOf_4 at hM
      refine lv_iload_n hx hb dX0_placeOf_4 rfl (lv_at hl 3 rfl) ?_
      refine lv_aload_n hx hb dX0_placeOf_5 rfl (lv_at hl 0 rfl) ?_
      refine va_get (D := D) (ci := 0) (v := .int c_persons) (C := RX0) (T := TX0) (N := 10) hx hb hts hin_X0 hown hK hP 0 rfl rfl 5 (by decide) hf_44 (fun _ h9 => h9) rfl dX0_placeOf_6 ?_
      refine lv_icmp_ge (tgt := 34) hx hb dX0_placeOf_9 (by decide) (fun c3 => ?_) (fun c3 => ?_)
      · replace hM := sx_ift c3 hM
        refine lv_iload_n hx hb dX0_placeOf_34 rfl (lv_at hl 2 rfl) ?_
        obtain rfl := sx_o1 hM
        exact hret _ _ _ _ dX0_placeOf_35 (hP.sub [0, 1] rfl) (hD.sub [0, 1] (by decide) rfl) hS
      · replace hM := sx_iff c3 hM
        refine lv_aload_n hx hb dX0_placeOf_12 rfl (lv_at hl 0 rfl) ?_
        refine va_get (D := D) (ci := 0) (v := .ref c_seating_a) (C := RX0) (T := TX0) (N := 10) hx hb hts hin_X0 hown hK hP 0 rfl rfl 1 (by decide) hf_15 (fun _ h9 => h9) rfl dX0_placeOf_13 ?_
        refine lv_iload_n hx hb dX0_placeOf_16 rfl (lv_at hl 3 rfl) ?_
        obtain ⟨g4, hM⟩ := sx_gd_s hM
        refine va_iald hx hb hK hP 1 0 rfl rfl (sx_ib_s g4) dX0_placeOf_17 ?_
        refine lv_iload_n hx hb dX0_placeOf_18 rfl (lv_at hl 1 rfl) ?_
        obtain ⟨k_27, ek_27, hM⟩ := sx_lt_s hM
        have hk_27 : ∀ (y5 : Int32) (H : Heap) (locs : List Loc) (ls : Array Slot), k_27 y5 = some r0 → lv_has ls 4 [(0, .ref c_h), (1, .int a1), (3, .int x2)] → va_P D vwCl [(c_h, .inr (0, [.ref c_kinds_a, .ref c_seating_a, .ref c_knows_a, .ref c_seals_a, .ref c_telling_a, .int c_persons, .int c_wax, .int c_week, .int c_day, .int c_draw])), (c_seating_a, .inl (cI, 6, .inl c_seating))] H → va_D A [(c_h, .inr (0, [.ref c_kinds_a, .ref c_seating_a, .ref c_knows_a, .ref c_seals_a, .ref c_telling_a, .int c_persons, .int c_wax, .int c_week, .int c_day, .int c_draw])), (c_seating_a, .inl (cI, 6, .inl c_seating))] → va_S A H0 H locs → W p l e R s m args below meth c H locs cells slots Q (F0 m 27 ls (.int y5 :: [])) := by
          intro y5 H locs ls hM hl hP hD hS
          rw [ek_27] at hM
          refine lv_istore_n (lv' := [(2, .int y5), (0, .ref c_h), (1, .int a1), (3, .int x2)]) hx hb dX0_placeOf_27 rfl hl (by decide) rfl (fun ls hl => ?_)
          obtain ⟨v6, ev6, hM⟩ := sx_nm_s hM
          refine lv_iinc (v := v6) (lv' := [(3, .int v6), (2, .int y5), (0, .ref c_h), (1, .int a1)]) hx hb dX0_placeOf_28 hl (k := 3) rfl (by rw [ev6]; rfl) (by decide) rfl (fun ls hl => ?_)
          refine lv_goto (tgt := 4) hx hb dX0_placeOf_31 (by decide) ?_
          exact ih y5 v6 _ _ _ hM (lv_sub hl [2, 3, 1, 0] rfl) (hP.sub [0, 1] rfl) (hD.sub [0, 1] (by decide) rfl) hS
        refine lv_icmp_ne (tgt := 26) hx hb dX0_placeOf_19 (by decide) (fun c7 => ?_) (fun c7 => ?_)
        · replace hM := sx_iff c7 hM
          refine lv_iload_n hx hb dX0_placeOf_26 rfl (lv_at hl 2 rfl) ?_
          exact hk_27 x1 _ _ _ hM (lv_sub hl [0, 1, 3] rfl) (hP.sub [0, 1] rfl) (hD.sub [0, 1] (by decide) rfl) hS
        · replace hM := sx_ift c7 hM
          refine lv_iload_n hx hb dX0_placeOf_22 rfl (lv_at hl 3 rfl) ?_
          refine lv_goto (tgt := 27) hx hb dX0_placeOf_23 (by decide) ?_
          exact hk_27 x2 _ _ _ hM (lv_sub hl [0, 1, 3] rfl) (hP.sub [0, 1] rfl) (hD.sub [0, 1] (by decide) rfl) hS
  exact lp_4 F (0 : Int32) (0 : Int32) _ _ _ hM (lv_sub hl [2, 3, 1, 0] rfl) (hP.sub [0, 1] rfl) (hD.sub [0, 1] (by decide) rfl) hS
set_option maxHeartbeats 4000000 in
set_option maxRecDepth 100000 in
theorem mtX0_placeOf (l : Launch) (D : va_G) (cI cJ cS : ClassId) (sz : Nat) (c_h c_kinds_a c_seating_a c_knows_a c_seals_a c_telling_a : Nat) (c_seating : Nat → Int32) (c_persons : Int32) (c_wax : Int32) (c_week : Int32) (c_day : Int32) (c_draw : Int32) (a1 : Int32) (F : Nat) (r0 : Int32) (hM : fnX0_placeOf F c_seating c_persons a1 = some r0) : sx_MI l yX0_placeOf wsX0_placeOf ({ frames := 0, cells := 0, slots := 0, locals := 0 }) D (sx_T cI cJ cS) sz [.ref c_h, .int a1] [(c_h, .inr (0, [.ref c_kinds_a, .ref c_seating_a, .ref c_knows_a, .ref c_seals_a, .ref c_telling_a, .int c_persons, .int c_wax, .int c_week, .int c_day, .int c_draw])), (c_seating_a, .inl (cI, 6, .inl c_seating))] r0 [(c_h, .inr (0, [.ref c_kinds_a, .ref c_seating_a, .ref c_knows_a, .ref c_seals_a, .ref c_telling_a, .int c_persons, .int c_wax, .int c_week, .int c_day, .int c_draw])), (c_seating_a, .inl (cI, 6, .inl c_seating))] := by
  refine Met.ofW (cc := cX0_placeOf) (maxL := 4) (ret := (some .int)) (by decide) rfl ?_
  intro p e s m args below meth c s₁ B hml hv
  obtain ⟨rfl, hsz, hN, hP, hK, hD0⟩ := hv
  subst hsz
  have hl := lv_entry ([.ref c_h, .int a1]) (n := 4) (Nat.le_of_ble_eq_true rfl)
  rw [lg_entry_eq]
  generalize (lg_sl ([.ref c_h, .int a1]) ++ List.replicate (4 - (lg_sl ([.ref c_h, .int a1])).length) Slot.unset).toArray = ls at hl ⊢
  exact kwX0_placeOf B.exec B.bytes hml (findClass_of_methodNamed B.named) (atoms_spec (ws := wsX0_placeOf) B.pre) hN hK (fun q h => Or.inr h) (by decide) (by decide) ⟨Nat.zero_le _, Nat.zero_le _⟩ c_h c_kinds_a c_seating_a c_knows_a c_seals_a c_telling_a c_seating c_persons c_wax c_week c_day c_draw a1 F r0 hM _ _ _ hl hP hD0.self va_S.rf (fun H1 locs1 ls1 pc1 hd hP hD hS => W.iret (v := r0) B.exec B.bytes B.returns (fun t ht hW => ⟨⟨r0, (), rfl, rfl, by rw [ht]; exact hP, hD⟩, hS.F ht⟩) hS.2.2 hd)

def fnX0_around (F : Nat) (c_persons : Int32) (a1 : Int32) : Option (Int32) :=
  (if a1 < c_persons then (some (a1)) else (some ((a1 - c_persons))))
set_option maxHeartbeats 4000000 in
set_option maxRecDepth 100000 in
theorem kwX0_around {p : Program} {l : Launch} {e : Env} {R : Room} {s : State} {m : MethodId} {args : Array Value} {below : List Frame} {meth : Method} {c : Code} {cells slots : Nat} {Q : State → Prop} {A : Nat → Prop} {H0 : Heap} {D : va_G} {cI cJ cS : ClassId} (hx : p.tables.exec = Jvm.exec) (hb : c.code = cX0_around) (hml : c.maxLocals = 2) (hown : s.vm.findClass RX0 = some m.cls) (hts : ∀ w ∈ wsX0_around, w.before args s = true) (hN : sx_N s) (hK : va_K D vwCl (sx_T cI cJ cS) s) (hA : ∀ q, H0.size ≤ q → A q) (hRf : 0 ≤ R.frames) (hRl : 0 ≤ R.locals) (hRc : cells ≤ R.cells ∧ slots ≤ R.slots) (c_h c_kinds_a c_seating_a c_knows_a c_seals_a c_telling_a : Nat) (c_persons : Int32) (c_wax : Int32) (c_week : Int32) (c_day : Int32) (c_draw : Int32) (a1 : Int32) (F : Nat) (r0 : Int32) (hM : fnX0_around F c_persons a1 = some r0) (H : Heap) (locs : List Loc) (ls : Array Slot) (hl : lv_has ls 2 [(0, .ref c_h), (1, .int a1)]) (hP : va_P D vwCl [(c_h, .inr (0, [.ref c_kinds_a, .ref c_seating_a, .ref c_knows_a, .ref c_seals_a, .ref c_telling_a, .int c_persons, .int c_wax, .int c_week, .int c_day, .int c_draw]))] H) (hD : va_D A [(c_h, .inr (0, [.ref c_kinds_a, .ref c_seating_a, .ref c_knows_a, .ref c_seals_a, .ref c_telling_a, .int c_persons, .int c_wax, .int c_week, .int c_day, .int c_draw]))]) (hS : va_S A H0 H locs)
    (hret : ∀ (H1 : Heap) (locs1 : List Loc) (ls1 : Array Slot) (pc1 : Nat), decode cX0_around pc1 = .ok (.ireturn, 1) → va_P D vwCl [(c_h, .inr (0, [.ref c_kinds_a, .ref c_seating_a, .ref c_knows_a, .ref c_seals_a, .ref c_telling_a, .int c_persons, .int c_wax, .int c_week, .int c_day, .int c_draw]))] H1 → va_D A [(c_h, .inr (0, [.ref c_kinds_a, .ref c_seating_a, .ref c_knows_a, .ref c_seals_a, .ref c_telling_a, .int c_persons, .int c_wax, .int c_week, .int c_day, .int c_draw]))] → va_S A H0 H1 locs1 → W p l e R s m args below meth c H1 locs1 cells slots Q (F0 m pc1 ls1 [.int r0])) : W p l e R s m args below meth c H locs cells slots Q (F0 m 0 ls []) := by
  have hf_44 := hts (.fieldLink RX0 44 "SealedLips$Court" "persons" "I") (by decide +kernel)
  have hin_X0 : ∀ w ∈ wsX00, w ∈ wsX0_around := by decide +kernel
  unfold fnX0_around at hM
  refine lv_iload_n hx hb dX0_around_0 rfl (lv_at hl 1 rfl) ?_
  refine lv_aload_n hx hb dX0_around_1 rfl (lv_at hl 0 rfl) ?_
  refine va_get (D := D) (ci := 0) (v := .int c_persons) (C := RX0) (T := TX0) (N := 10) hx hb hts hin_X0 hown hK hP 0 rfl rfl 5 (by decide) hf_44 (fun _ h9 => h9) rfl dX0_around_2 ?_
  refine lv_icmp_lt (tgt := 17) hx hb dX0_around_5 (by decide) (fun c1 => ?_) (fun c1 => ?_)
  · replace hM := sx_ift c1 hM
    refine lv_iload_n hx hb dX0_around_17 rfl (lv_at hl 1 rfl) ?_
    obtain rfl := sx_o1 hM
    exact hret _ _ _ _ dX0_around_18 (hP.sub [0] rfl) (hD.sub [0] (by decide) rfl) hS
  · replace hM := sx_iff c1 hM
    refine lv_iload_n hx hb dX0_around_8 rfl (lv_at hl 1 rfl) ?_
    refine lv_aload_n hx hb dX0_around_9 rfl (lv_at hl 0 rfl) ?_
    refine va_get (D := D) (ci := 0) (v := .int c_persons) (C := RX0) (T := TX0) (N := 10) hx hb hts hin_X0 hown hK hP 0 rfl rfl 5 (by decide) hf_44 (fun _ h9 => h9) rfl dX0_around_10 ?_
    refine lv_isub hx hb dX0_around_13 ?_
    refine lv_goto (tgt := 18) hx hb dX0_around_14 (by decide) ?_
    obtain rfl := sx_o1 hM
    exact hret _ _ _ _ dX0_around_18 (hP.sub [0] rfl) (hD.sub [0] (by decide) rfl) hS
set_option maxHeartbeats 4000000 in
set_option maxRecDepth 100000 in
theorem mtX0_around (l : Launch) (D : va_G) (cI cJ cS : ClassId) (sz : Nat) (c_h c_kinds_a c_seating_a c_knows_a c_seals_a c_telling_a : Nat) (c_persons : Int32) (c_wax : Int32) (c_week : Int32) (c_day : Int32) (c_draw : Int32) (a1 : Int32) (F : Nat) (r0 : Int32) (hM : fnX0_around F c_persons a1 = some r0) : sx_MI l yX0_around wsX0_around ({ frames := 0, cells := 0, slots := 0, locals := 0 }) D (sx_T cI cJ cS) sz [.ref c_h, .int a1] [(c_h, .inr (0, [.ref c_kinds_a, .ref c_seating_a, .ref c_knows_a, .ref c_seals_a, .ref c_telling_a, .int c_persons, .int c_wax, .int c_week, .int c_day, .int c_draw]))] r0 [(c_h, .inr (0, [.ref c_kinds_a, .ref c_seating_a, .ref c_knows_a, .ref c_seals_a, .ref c_telling_a, .int c_persons, .int c_wax, .int c_week, .int c_day, .int c_draw]))] := by
  refine Met.ofW (cc := cX0_around) (maxL := 2) (ret := (some .int)) (by decide) rfl ?_
  intro p e s m args below meth c s₁ B hml hv
  obtain ⟨rfl, hsz, hN, hP, hK, hD0⟩ := hv
  subst hsz
  have hl := lv_entry ([.ref c_h, .int a1]) (n := 2) (Nat.le_of_ble_eq_true rfl)
  rw [lg_entry_eq]
  generalize (lg_sl ([.ref c_h, .int a1]) ++ List.replicate (2 - (lg_sl ([.ref c_h, .int a1])).length) Slot.unset).toArray = ls at hl ⊢
  exact kwX0_around B.exec B.bytes hml (findClass_of_methodNamed B.named) (atoms_spec (ws := wsX0_around) B.pre) hN hK (fun q h => Or.inr h) (by decide) (by decide) ⟨Nat.zero_le _, Nat.zero_le _⟩ c_h c_kinds_a c_seating_a c_knows_a c_seals_a c_telling_a c_persons c_wax c_week c_day c_draw a1 F r0 hM _ _ _ hl hP hD0.self va_S.rf (fun H1 locs1 ls1 pc1 hd hP hD hS => W.iret (v := r0) B.exec B.bytes B.returns (fun t ht hW => ⟨⟨r0, (), rfl, rfl, by rw [ht]; exact hP, hD⟩, hS.F ht⟩) hS.2.2 hd)

def fnX0_beside (F : Nat) (c_seating : Nat → Int32) (c_persons : Int32) (a1 : Int32) (a2 : Int32) : Option (Int32) :=
  sx_c1 (fnX0_placeOf F c_seating c_persons a1) (fun (r1 : Int32) => sx_c1 (fnX0_around F c_persons (r1 + a2)) (fun (r3 : Int32) => sx_gd (sx_ib r3 6) ((some ((c_seating (r3).toNatClampNeg))))))
set_option maxHeartbeats 4000000 in
set_option maxRecDepth 100000 in
theorem kwX0_beside {p : Program} {l : Launch} {e : Env} {R : Room} {s : State} {m : MethodId} {args : Array Value} {below : List Frame} {meth : Method} {c : Code} {cells slots : Nat} {Q : State → Prop} {A : Nat → Prop} {H0 : Heap} {D : va_G} {cI cJ cS : ClassId} (hx : p.tables.exec = Jvm.exec) (hb : c.code = cX0_beside) (hml : c.maxLocals = 3) (hown : s.vm.findClass RX0 = some m.cls) (hts : ∀ w ∈ wsX0_beside, w.before args s = true) (hN : sx_N s) (hK : va_K D vwCl (sx_T cI cJ cS) s) (hA : ∀ q, H0.size ≤ q → A q) (hRf : 1 ≤ R.frames) (hRl : 23 ≤ R.locals) (hRc : cells ≤ R.cells ∧ slots ≤ R.slots) (c_h c_kinds_a c_seating_a c_knows_a c_seals_a c_telling_a : Nat) (c_seating : Nat → Int32) (c_persons : Int32) (c_wax : Int32) (c_week : Int32) (c_day : Int32) (c_draw : Int32) (a1 : Int32) (a2 : Int32) (F : Nat) (r0 : Int32) (hM : fnX0_beside F c_seating c_persons a1 a2 = some r0) (H : Heap) (locs : List Loc) (ls : Array Slot) (hl : lv_has ls 3 [(0, .ref c_h), (1, .int a1), (2, .int a2)]) (hP : va_P D vwCl [(c_h, .inr (0, [.ref c_kinds_a, .ref c_seating_a, .ref c_knows_a, .ref c_seals_a, .ref c_telling_a, .int c_persons, .int c_wax, .int c_week, .int c_day, .int c_draw])), (c_seating_a, .inl (cI, 6, .inl c_seating))] H) (hD : va_D A [(c_h, .inr (0, [.ref c_kinds_a, .ref c_seating_a, .ref c_knows_a, .ref c_seals_a, .ref c_telling_a, .int c_persons, .int c_wax, .int c_week, .int c_day, .int c_draw])), (c_seating_a, .inl (cI, 6, .inl c_seating))]) (hS : va_S A H0 H locs)
    (hret : ∀ (H1 : Heap) (locs1 : List Loc) (ls1 : Array Slot) (pc1 : Nat), decode cX0_beside pc1 = .ok (.ireturn, 1) → va_P D vwCl [(c_h, .inr (0, [.ref c_kinds_a, .ref c_seating_a, .ref c_knows_a, .ref c_seals_a, .ref c_telling_a, .int c_persons, .int c_wax, .int c_week, .int c_day, .int c_draw])), (c_seating_a, .inl (cI, 6, .inl c_seating))] H1 → va_D A [(c_h, .inr (0, [.ref c_kinds_a, .ref c_seating_a, .ref c_knows_a, .ref c_seals_a, .ref c_telling_a, .int c_persons, .int c_wax, .int c_week, .int c_day, .int c_draw])), (c_seating_a, .inl (cI, 6, .inl c_seating))] → va_S A H0 H1 locs1 → W p l e R s m args below meth c H1 locs1 cells slots Q (F0 m pc1 ls1 [.int r0])) : W p l e R s m args below meth c H locs cells slots Q (F0 m 0 ls []) := by
  have hf_15 := hts (.fieldLink RX0 15 "SealedLips$Court" "seating" "[I") (by decide +kernel)
  have hin_X0 : ∀ w ∈ wsX00, w ∈ wsX0_beside := by decide +kernel
  unfold fnX0_beside at hM
  refine lv_aload_n hx hb dX0_beside_0 rfl (lv_at hl 0 rfl) ?_
  refine va_get (D := D) (ci := 0) (v := .ref c_seating_a) (C := RX0) (T := TX0) (N := 10) hx hb hts hin_X0 hown hK hP 0 rfl rfl 1 (by decide) hf_15 (fun _ h9 => h9) rfl dX0_beside_1 ?_
  refine lv_aload_n hx hb dX0_beside_4 rfl (lv_at hl 0 rfl) ?_
  refine lv_aload_n hx hb dX0_beside_5 rfl (lv_at hl 0 rfl) ?_
  refine lv_iload_n hx hb dX0_beside_6 rfl (lv_at hl 1 rfl) ?_
  obtain ⟨r1, hc2, hM⟩ := sx_c1_s hM
  refine sx_iV (As := [.int a1]) (rest := [.ref c_h, .ref c_seating_a]) (wc := [(c_h, .inr (0, [.ref c_kinds_a, .ref c_seating_a, .ref c_knows_a, .ref c_seals_a, .ref c_telling_a, .int c_persons, .int c_wax, .int c_week, .int c_day, .int c_draw])), (c_seating_a, .inl (cI, 6, .inl c_seating))]) (wr := []) (w1 := [(c_h, .inr (0, [.ref c_kinds_a, .ref c_seating_a, .ref c_knows_a, .ref c_seals_a, .ref c_telling_a, .int c_persons, .int c_wax, .int c_week, .int c_day, .int c_draw])), (c_seating_a, .inl (cI, 6, .inl c_seating))]) ⟨hx, hb, hml, hown, hts⟩ (mtX0_placeOf l D cI cJ cS H.size c_h c_kinds_a c_seating_a c_knows_a c_seals_a c_telling_a c_seating c_persons c_wax c_week c_day c_draw a1 F r1 hc2) (cwV 1 hts gX0_beside_X0_placeOf rfl rfl rfl (by decide +kernel) ⟨Nat.le_trans (by decide) hRf, Nat.le_trans (by decide) hRl⟩) hK hN hP hD hS hA [0, 1] [] rfl (by decide) rfl (by decide) (by decide) rfl rfl rfl rfl hl.1 rfl (Nat.le_of_ble_eq_true rfl) dX0_beside_7 hRc (fun H locs hP hD hS => ?_)
  have hP : va_P D vwCl [(c_h, .inr (0, [.ref c_kinds_a, .ref c_seating_a, .ref c_knows_a, .ref c_seals_a, .ref c_telling_a, .int c_persons, .int c_wax, .int c_week, .int c_day, .int c_draw])), (c_seating_a, .inl (cI, 6, .inl c_seating))] H := hP
  have hD : va_D A [(c_h, .inr (0, [.ref c_kinds_a, .ref c_seating_a, .ref c_knows_a, .ref c_seals_a, .ref c_telling_a, .int c_persons, .int c_wax, .int c_week, .int c_day, .int c_draw])), (c_seating_a, .inl (cI, 6, .inl c_seating))] := hD
  refine lv_iload_n hx hb dX0_beside_10 rfl (lv_at hl 2 rfl) ?_
  refine lv_iadd hx hb dX0_beside_11 ?_
  obtain ⟨r3, hc4, hM⟩ := sx_c1_s hM
  refine sx_iV (As := [.int (r1 + a2)]) (rest := [.ref c_seating_a]) (wc := [(c_h, .inr (0, [.ref c_kinds_a, .ref c_seating_a, .ref c_knows_a, .ref c_seals_a, .ref c_telling_a, .int c_persons, .int c_wax, .int c_week, .int c_day, .int c_draw]))]) (wr := [(c_seating_a, .inl (cI, 6, .inl c_seating))]) (w1 := [(c_h, .inr (0, [.ref c_kinds_a, .ref c_seating_a, .ref c_knows_a, .ref c_seals_a, .ref c_telling_a, .int c_persons, .int c_wax, .int c_week, .int c_day, .int c_draw]))]) ⟨hx, hb, hml, hown, hts⟩ (mtX0_around l D cI cJ cS H.size c_h c_kinds_a c_seating_a c_knows_a c_seals_a c_telling_a c_persons c_wax c_week c_day c_draw (r1 + a2) F r3 hc4) (cwV 1 hts gX0_beside_X0_around rfl rfl rfl (by decide +kernel) ⟨Nat.le_trans (by decide) hRf, Nat.le_trans (by decide) hRl⟩) hK hN hP hD hS hA [0] [1] rfl (by decide) rfl (by decide) (by decide) rfl rfl rfl rfl hl.1 rfl (Nat.le_of_ble_eq_true rfl) dX0_beside_12 hRc (fun H locs hP hD hS => ?_)
  have hP : va_P D vwCl [(c_seating_a, .inl (cI, 6, .inl c_seating)), (c_h, .inr (0, [.ref c_kinds_a, .ref c_seating_a, .ref c_knows_a, .ref c_seals_a, .ref c_telling_a, .int c_persons, .int c_wax, .int c_week, .int c_day, .int c_draw]))] H := hP
  have hD : va_D A [(c_seating_a, .inl (cI, 6, .inl c_seating)), (c_h, .inr (0, [.ref c_kinds_a, .ref c_seating_a, .ref c_knows_a, .ref c_seals_a, .ref c_telling_a, .int c_persons, .int c_wax, .int c_week, .int c_day, .int c_draw]))] := hD
  obtain ⟨g5, hM⟩ := sx_gd_s hM
  refine va_iald hx hb hK hP 0 0 rfl rfl (sx_ib_s g5) dX0_beside_15 ?_
  obtain rfl := sx_o1 hM
  exact hret _ _ _ _ dX0_beside_16 (hP.sub [1, 0] rfl) (hD.sub [1, 0] (by decide) rfl) hS
set_option maxHeartbeats 4000000 in
set_option maxRecDepth 100000 in
theorem mtX0_beside (l : Launch) (D : va_G) (cI cJ cS : ClassId) (sz : Nat) (c_h c_kinds_a c_seating_a c_knows_a c_seals_a c_telling_a : Nat) (c_seating : Nat → Int32) (c_persons : Int32) (c_wax : Int32) (c_week : Int32) (c_day : Int32) (c_draw : Int32) (a1 : Int32) (a2 : Int32) (F : Nat) (r0 : Int32) (hM : fnX0_beside F c_seating c_persons a1 a2 = some r0) : sx_MI l yX0_beside wsX0_beside ({ frames := 1, cells := 0, slots := 0, locals := 23 }) D (sx_T cI cJ cS) sz [.ref c_h, .int a1, .int a2] [(c_h, .inr (0, [.ref c_kinds_a, .ref c_seating_a, .ref c_knows_a, .ref c_seals_a, .ref c_telling_a, .int c_persons, .int c_wax, .int c_week, .int c_day, .int c_draw])), (c_seating_a, .inl (cI, 6, .inl c_seating))] r0 [(c_h, .inr (0, [.ref c_kinds_a, .ref c_seating_a, .ref c_knows_a, .ref c_seals_a, .ref c_telling_a, .int c_persons, .int c_wax, .int c_week, .int c_day, .int c_draw])), (c_seating_a, .inl (cI, 6, .inl c_seating))] := by
  refine Met.ofW (cc := cX0_beside) (maxL := 3) (ret := (some .int)) (by decide) rfl ?_
  intro p e s m args below meth c s₁ B hml hv
  obtain ⟨rfl, hsz, hN, hP, hK, hD0⟩ := hv
  subst hsz
  have hl := lv_entry ([.ref c_h, .int a1, .int a2]) (n := 3) (Nat.le_of_ble_eq_true rfl)
  rw [lg_entry_eq]
  generalize (lg_sl ([.ref c_h, .int a1, .int a2]) ++ List.replicate (3 - (lg_sl ([.ref c_h, .int a1, .int a2])).length) Slot.unset).toArray = ls at hl ⊢
  exact kwX0_beside B.exec B.bytes hml (findClass_of_methodNamed B.named) (atoms_spec (ws := wsX0_beside) B.pre) hN hK (fun q h => Or.inr h) (by decide) (by decide) ⟨Nat.zero_le _, Nat.zero_le _⟩ c_h c_kinds_a c_seating_a c_knows_a c_seals_a c_telling_a c_seating c_persons c_wax c_week c_day c_draw a1 a2 F r0 hM _ _ _ hl hP hD0.self va_S.rf (fun H1 locs1 ls1 pc1 hd hP hD hS => W.iret (v := r0) B.exec B.bytes B.returns (fun t ht hW => ⟨⟨r0, (), rfl, rfl, by rw [ht]; exact hP, hD⟩, hS.F ht⟩) hS.2.2 hd)

def fnX0_swapSeats (F : Nat) (c_seating : Nat → Int32) (c_persons : Int32) (a1 : Int32) (a2 : Int32) : Option ((Nat → Int32)) :=
  sx_c1 (fnX0_placeOf F c_seating c_persons a1) (fun (r1 : Int32) => sx_c1 (fnX0_placeOf F c_seating c_persons a2) (fun (r3 : Int32) => sx_gd (sx_ib r1 6) (sx_gd (sx_ib r3 6) ((some ((upd (upd c_seating (r1).toNatClampNeg a2) (r3).toNatClampNeg a1)))))))
set_option maxHeartbeats 4000000 in
set_option maxRecDepth 100000 in
theorem kwX0_swapSeats {p : Program} {l : Launch} {e : Env} {R : Room} {s : State} {m : MethodId} {args : Array Value} {below : List Frame} {meth : Method} {c : Code} {cells slots : Nat} {Q : State → Prop} {A : Nat → Prop} {H0 : Heap} {D : va_G} {cI cJ cS : ClassId} (hx : p.tables.exec = Jvm.exec) (hb : c.code = cX0_swapSeats) (hml : c.maxLocals = 5) (hown : s.vm.findClass RX0 = some m.cls) (hts : ∀ w ∈ wsX0_swapSeats, w.before args s = true) (hN : sx_N s) (hK : va_K D vwCl (sx_T cI cJ cS) s) (hA : ∀ q, H0.size ≤ q → A q) (hRf : 1 ≤ R.frames) (hRl : 23 ≤ R.locals) (hRc : cells ≤ R.cells ∧ slots ≤ R.slots) (c_h c_kinds_a c_seating_a c_knows_a c_seals_a c_telling_a : Nat) (c_seating : Nat → Int32) (c_persons : Int32) (c_wax : Int32) (c_week : Int32) (c_day : Int32) (c_draw : Int32) (a1 : Int32) (a2 : Int32) (F : Nat) (w_c_seating : Nat → Int32) (hM : fnX0_swapSeats F c_seating c_persons a1 a2 = some w_c_seating) (H : Heap) (locs : List Loc) (ls : Array Slot) (hl : lv_has ls 5 [(0, .ref c_h), (1, .int a1), (2, .int a2)]) (hP : va_P D vwCl [(c_h, .inr (0, [.ref c_kinds_a, .ref c_seating_a, .ref c_knows_a, .ref c_seals_a, .ref c_telling_a, .int c_persons, .int c_wax, .int c_week, .int c_day, .int c_draw])), (c_seating_a, .inl (cI, 6, .inl c_seating))] H) (hD : va_D A [(c_h, .inr (0, [.ref c_kinds_a, .ref c_seating_a, .ref c_knows_a, .ref c_seals_a, .ref c_telling_a, .int c_persons, .int c_wax, .int c_week, .int c_day, .int c_draw])), (c_seating_a, .inl (cI, 6, .inl c_seating))]) (hS : va_S A H0 H locs)
    (hret : ∀ (H1 : Heap) (locs1 : List Loc) (ls1 : Array Slot) (pc1 : Nat), decode cX0_swapSeats pc1 = .ok (.return_, 1) → va_P D vwCl [(c_h, .inr (0, [.ref c_kinds_a, .ref c_seating_a, .ref c_knows_a, .ref c_seals_a, .ref c_telling_a, .int c_persons, .int c_wax, .int c_week, .int c_day, .int c_draw])), (c_seating_a, .inl (cI, 6, .inl w_c_seating))] H1 → va_D A [(c_h, .inr (0, [.ref c_kinds_a, .ref c_seating_a, .ref c_knows_a, .ref c_seals_a, .ref c_telling_a, .int c_persons, .int c_wax, .int c_week, .int c_day, .int c_draw])), (c_seating_a, .inl (cI, 6, .inl w_c_seating))] → va_S A H0 H1 locs1 → W p l e R s m args below meth c H1 locs1 cells slots Q (F0 m pc1 ls1 [])) : W p l e R s m args below meth c H locs cells slots Q (F0 m 0 ls []) := by
  have hf_15 := hts (.fieldLink RX0 15 "SealedLips$Court" "seating" "[I") (by decide +kernel)
  have hin_X0 : ∀ w ∈ wsX00, w ∈ wsX0_swapSeats := by decide +kernel
  unfold fnX0_swapSeats at hM
  refine lv_aload_n hx hb dX0_swapSeats_0 rfl (lv_at hl 0 rfl) ?_
  refine lv_iload_n hx hb dX0_swapSeats_1 rfl (lv_at hl 1 rfl) ?_
  obtain ⟨r1, hc2, hM⟩ := sx_c1_s hM
  refine sx_iV (As := [.int a1]) (rest := []) (wc := [(c_h, .inr (0, [.ref c_kinds_a, .ref c_seating_a, .ref c_knows_a, .ref c_seals_a, .ref c_telling_a, .int c_persons, .int c_wax, .int c_week, .int c_day, .int c_draw])), (c_seating_a, .inl (cI, 6, .inl c_seating))]) (wr := []) (w1 := [(c_h, .inr (0, [.ref c_kinds_a, .ref c_seating_a, .ref c_knows_a, .ref c_seals_a, .ref c_telling_a, .int c_persons, .int c_wax, .int c_week, .int c_day, .int c_draw])), (c_seating_a, .inl (cI, 6, .inl c_seating))]) ⟨hx, hb, hml, hown, hts⟩ (mtX0_placeOf l D cI cJ cS H.size c_h c_kinds_a c_seating_a c_knows_a c_seals_a c_telling_a c_seating c_persons c_wax c_week c_day c_draw a1 F r1 hc2) (cwV 1 hts gX0_swapSeats_X0_placeOf rfl rfl rfl (by decide +kernel) ⟨Nat.le_trans (by decide) hRf, Nat.le_trans (by decide) hRl⟩) hK hN hP hD hS hA [0, 1] [] rfl (by decide) rfl (by decide) (by decide) rfl rfl rfl rfl hl.1 rfl (Nat.le_of_ble_eq_true rfl) dX0_swapSeats_2 hRc (fun H locs hP hD hS => ?_)
  have hP : va_P D vwCl [(c_h, .inr (0, [.ref c_kinds_a, .ref c_seating_a, .ref c_knows_a, .ref c_seals_a, .ref c_telling_a, .int c_persons, .int c_wax, .int c_week, .int c_day, .int c_draw])), (c_seating_a, .inl (cI, 6, .inl c_seating))] H := hP
  have hD : va_D A [(c_h, .inr (0, [.ref c_kinds_a, .ref c_seating_a, .ref c_knows_a, .ref c_seals_a, .ref c_telling_a, .int c_persons, .int c_wax, .int c_week, .int c_day, .int c_draw])), (c_seating_a, .inl (cI, 6, .inl c_seating))] := hD
  refine lv_istore_n (lv' := [(3, .int r1), (0, .ref c_h), (1, .int a1), (2, .int a2)]) hx hb dX0_swapSeats_5 rfl hl (by decide) rfl (fun ls hl => ?_)
  refine lv_aload_n hx hb dX0_swapSeats_6 rfl (lv_at hl 1 rfl) ?_
  refine lv_iload_n hx hb dX0_swapSeats_7 rfl (lv_at hl 3 rfl) ?_
  obtain ⟨r3, hc4, hM⟩ := sx_c1_s hM
  refine sx_iV (As := [.int a2]) (rest := []) (wc := [(c_h, .inr (0, [.ref c_kinds_a, .ref c_seating_a, .ref c_knows_a, .ref c_seals_a, .ref c_telling_a, .int c_persons, .int c_wax, .int c_week, .int c_day, .int c_draw])), (c_seating_a, .inl (cI, 6, .inl c_seating))]) (wr := []) (w1 := [(c_h, .inr (0, [.ref c_kinds_a, .ref c_seating_a, .ref c_knows_a, .ref c_seals_a, .ref c_telling_a, .int c_persons, .int c_wax, .int c_week, .int c_day, .int c_draw])), (c_seating_a, .inl (cI, 6, .inl c_seating))]) ⟨hx, hb, hml, hown, hts⟩ (mtX0_placeOf l D cI cJ cS H.size c_h c_kinds_a c_seating_a c_knows_a c_seals_a c_telling_a c_seating c_persons c_wax c_week c_day c_draw a2 F r3 hc4) (cwV 1 hts gX0_swapSeats_X0_placeOf rfl rfl rfl (by decide +kernel) ⟨Nat.le_trans (by decide) hRf, Nat.le_trans (by decide) hRl⟩) hK hN hP hD hS hA [0, 1] [] rfl (by decide) rfl (by decide) (by decide) rfl rfl rfl rfl hl.1 rfl (Nat.le_of_ble_eq_true rfl) dX0_swapSeats_8 hRc (fun H locs hP hD hS => ?_)
  have hP : va_P D vwCl [(c_h, .inr (0, [.ref c_kinds_a, .ref c_seating_a, .ref c_knows_a, .ref c_seals_a, .ref c_telling_a, .int c_persons, .int c_wax, .int c_week, .int c_day, .int c_draw])), (c_seating_a, .inl (cI, 6, .inl c_seating))] H := hP
  have hD : va_D A [(c_h, .inr (0, [.ref c_kinds_a, .ref c_seating_a, .ref c_knows_a, .ref c_seals_a, .ref c_telling_a, .int c_persons, .int c_wax, .int c_week, .int c_day, .int c_draw])), (c_seating_a, .inl (cI, 6, .inl c_seating))] := hD
  refine lv_istore (lv' := [(4, .int r3), (3, .int r1), (0, .ref c_h), (1, .int a1), (2, .int a2)]) hx hb dX0_swapSeats_11 hl (by decide) rfl (fun ls hl => ?_)
  refine lv_aload_n hx hb dX0_swapSeats_13 rfl (lv_at hl 2 rfl) ?_
  refine va_get (D := D) (ci := 0) (v := .ref c_seating_a) (C := RX0) (T := TX0) (N := 10) hx hb hts hin_X0 hown hK hP 0 rfl rfl 1 (by decide) hf_15 (fun _ h9 => h9) rfl dX0_swapSeats_14 ?_
  refine lv_iload_n hx hb dX0_swapSeats_17 rfl (lv_at hl 1 rfl) ?_
  refine lv_iload_n hx hb dX0_swapSeats_18 rfl (lv_at hl 4 rfl) ?_
  obtain ⟨g5, hM⟩ := sx_gd_s hM
  refine va_iast hx hb hK hP hD hS 1 0 rfl rfl (sx_ib_s g5) dX0_swapSeats_19 (fun H locs hP hD hS => ?_)
  have hP : va_P D vwCl [(c_h, .inr (0, [.ref c_kinds_a, .ref c_seating_a, .ref c_knows_a, .ref c_seals_a, .ref c_telling_a, .int c_persons, .int c_wax, .int c_week, .int c_day, .int c_draw])), (c_seating_a, .inl (cI, 6, .inl (upd c_seating (r1).toNatClampNeg a2)))] H := hP
  have hD : va_D A [(c_h, .inr (0, [.ref c_kinds_a, .ref c_seating_a, .ref c_knows_a, .ref c_seals_a, .ref c_telling_a, .int c_persons, .int c_wax, .int c_week, .int c_day, .int c_draw])), (c_seating_a, .inl (cI, 6, .inl (upd c_seating (r1).toNatClampNeg a2)))] := hD
  refine lv_aload_n hx hb dX0_swapSeats_20 rfl (lv_at hl 2 rfl) ?_
  refine va_get (D := D) (ci := 0) (v := .ref c_seating_a) (C := RX0) (T := TX0) (N := 10) hx hb hts hin_X0 hown hK hP 0 rfl rfl 1 (by decide) hf_15 (fun _ h9 => h9) rfl dX0_swapSeats_21 ?_
  refine lv_iload hx hb dX0_swapSeats_24 (lv_at hl 0 rfl) ?_
  refine lv_iload_n hx hb dX0_swapSeats_26 rfl (lv_at hl 3 rfl) ?_
  obtain ⟨g6, hM⟩ := sx_gd_s hM
  refine va_iast hx hb hK hP hD hS 1 0 rfl rfl (sx_ib_s g6) dX0_swapSeats_27 (fun H locs hP hD hS => ?_)
  have hP : va_P D vwCl [(c_h, .inr (0, [.ref c_kinds_a, .ref c_seating_a, .ref c_knows_a, .ref c_seals_a, .ref c_telling_a, .int c_persons, .int c_wax, .int c_week, .int c_day, .int c_draw])), (c_seating_a, .inl (cI, 6, .inl (upd (upd c_seating (r1).toNatClampNeg a2) (r3).toNatClampNeg a1)))] H := hP
  have hD : va_D A [(c_h, .inr (0, [.ref c_kinds_a, .ref c_seating_a, .ref c_knows_a, .ref c_seals_a, .ref c_telling_a, .int c_persons, .int c_wax, .int c_week, .int c_day, .int c_draw])), (c_seating_a, .inl (cI, 6, .inl (upd (upd c_seating (r1).toNatClampNeg a2) (r3).toNatClampNeg a1)))] := hD
  obtain rfl := sx_o1 hM
  exact hret _ _ _ _ dX0_swapSeats_28 (hP.sub [0, 1] rfl) (hD.sub [0, 1] (by decide) rfl) hS
set_option maxHeartbeats 4000000 in
set_option maxRecDepth 100000 in
theorem mtX0_swapSeats (l : Launch) (D : va_G) (cI cJ cS : ClassId) (sz : Nat) (c_h c_kinds_a c_seating_a c_knows_a c_seals_a c_telling_a : Nat) (c_seating : Nat → Int32) (c_persons : Int32) (c_wax : Int32) (c_week : Int32) (c_day : Int32) (c_draw : Int32) (a1 : Int32) (a2 : Int32) (F : Nat) (w_c_seating : Nat → Int32) (hM : fnX0_swapSeats F c_seating c_persons a1 a2 = some w_c_seating) : sx_MV l yX0_swapSeats wsX0_swapSeats ({ frames := 1, cells := 0, slots := 0, locals := 23 }) D (sx_T cI cJ cS) sz [.ref c_h, .int a1, .int a2] [(c_h, .inr (0, [.ref c_kinds_a, .ref c_seating_a, .ref c_knows_a, .ref c_seals_a, .ref c_telling_a, .int c_persons, .int c_wax, .int c_week, .int c_day, .int c_draw])), (c_seating_a, .inl (cI, 6, .inl c_seating))] [(c_h, .inr (0, [.ref c_kinds_a, .ref c_seating_a, .ref c_knows_a, .ref c_seals_a, .ref c_telling_a, .int c_persons, .int c_wax, .int c_week, .int c_day, .int c_draw])), (c_seating_a, .inl (cI, 6, .inl w_c_seating))] := by
  refine Met.ofW (cc := cX0_swapSeats) (maxL := 5) (ret := none) (by decide) rfl ?_
  intro p e s m args below meth c s₁ B hml hv
  obtain ⟨rfl, hsz, hN, hP, hK, hD0⟩ := hv
  subst hsz
  have hl := lv_entry ([.ref c_h, .int a1, .int a2]) (n := 5) (Nat.le_of_ble_eq_true rfl)
  rw [lg_entry_eq]
  generalize (lg_sl ([.ref c_h, .int a1, .int a2]) ++ List.replicate (5 - (lg_sl ([.ref c_h, .int a1, .int a2])).length) Slot.unset).toArray = ls at hl ⊢
  exact kwX0_swapSeats B.exec B.bytes hml (findClass_of_methodNamed B.named) (atoms_spec (ws := wsX0_swapSeats) B.pre) hN hK (fun q h => Or.inr h) (by decide) (by decide) ⟨Nat.zero_le _, Nat.zero_le _⟩ c_h c_kinds_a c_seating_a c_knows_a c_seals_a c_telling_a c_seating c_persons c_wax c_week c_day c_draw a1 a2 F w_c_seating hM _ _ _ hl hP hD0.self va_S.rf (fun H1 locs1 ls1 pc1 hd hP hD hS => W.vret B.exec B.bytes B.returns (fun t ht hW => ⟨⟨(), rfl, trivial, by rw [ht]; exact hP, hD⟩, hS.F ht⟩) hS.2.2 hd)

def fnX4_byteOf (F : Nat) (a1 : Int32) : Option (Int64) :=
  (some (((1 : Int64) <<< ((((8 : Int32) * a1)).toInt64 &&& 63))))
set_option maxHeartbeats 4000000 in
set_option maxRecDepth 100000 in
theorem kwX4_byteOf {p : Program} {l : Launch} {e : Env} {R : Room} {s : State} {m : MethodId} {args : Array Value} {below : List Frame} {meth : Method} {c : Code} {cells slots : Nat} {Q : State → Prop} {A : Nat → Prop} {H0 : Heap} {D : va_G} {cI cJ cS : ClassId} (hx : p.tables.exec = Jvm.exec) (hb : c.code = cX4_byteOf) (hml : c.maxLocals = 1) (hown : s.vm.findClass RX4 = some m.cls) (hts : ∀ w ∈ wsX4_byteOf, w.before args s = true) (hN : sx_N s) (hK : va_K D vwCl (sx_T cI cJ cS) s) (hA : ∀ q, H0.size ≤ q → A q) (hRf : 0 ≤ R.frames) (hRl : 0 ≤ R.locals) (hRc : cells ≤ R.cells ∧ slots ≤ R.slots) (a1 : Int32) (F : Nat) (r0 : Int64) (hM : fnX4_byteOf F a1 = some r0) (H : Heap) (locs : List Loc) (ls : Array Slot) (hl : lv_has ls 1 [(0, .int a1)]) (hP : va_P D vwCl [] H) (hD : va_D A []) (hS : va_S A H0 H locs)
    (hret : ∀ (H1 : Heap) (locs1 : List Loc) (ls1 : Array Slot) (pc1 : Nat), decode cX4_byteOf pc1 = .ok (.lreturn, 1) → va_P D vwCl [] H1 → va_D A [] → va_S A H0 H1 locs1 → W p l e R s m args below meth c H1 locs1 cells slots Q (F0 m pc1 ls1 [.long r0])) : W p l e R s m args below meth c H locs cells slots Q (F0 m 0 ls []) := by
  unfold fnX4_byteOf at hM
  refine lv_lconst (v := 1) hx hb dX4_byteOf_0 (by decide) ?_
  refine lv_bipush (v := 8) hx hb dX4_byteOf_1 (by decide) ?_
  refine lv_iload_n hx hb dX4_byteOf_3 rfl (lv_at hl 0 rfl) ?_
  refine lv_imul hx hb dX4_byteOf_4 ?_
  refine lv_lshl hx hb dX4_byteOf_5 rfl ?_
  obtain rfl := sx_o1 hM
  exact hret _ _ _ _ dX4_byteOf_6 (hP.sub [] rfl) (hD.sub [] (by decide) rfl) hS
set_option maxHeartbeats 4000000 in
set_option maxRecDepth 100000 in
theorem mtX4_byteOf (l : Launch) (D : va_G) (cI cJ cS : ClassId) (sz : Nat) (a1 : Int32) (F : Nat) (r0 : Int64) (hM : fnX4_byteOf F a1 = some r0) : sx_ML l yX4_byteOf wsX4_byteOf ({ frames := 0, cells := 0, slots := 0, locals := 0 }) D (sx_T cI cJ cS) sz [.int a1] [] r0 [] := by
  refine Met.ofW (cc := cX4_byteOf) (maxL := 1) (ret := (some .long)) (by decide) rfl ?_
  intro p e s m args below meth c s₁ B hml hv
  obtain ⟨rfl, hsz, hN, hP, hK, hD0⟩ := hv
  subst hsz
  have hl := lv_entry ([.int a1]) (n := 1) (Nat.le_of_ble_eq_true rfl)
  rw [lg_entry_eq]
  generalize (lg_sl ([.int a1]) ++ List.replicate (1 - (lg_sl ([.int a1])).length) Slot.unset).toArray = ls at hl ⊢
  exact kwX4_byteOf B.exec B.bytes hml (findClass_of_methodNamed B.named) (atoms_spec (ws := wsX4_byteOf) B.pre) hN hK (fun q h => Or.inr h) (by decide) (by decide) ⟨Nat.zero_le _, Nat.zero_le _⟩ a1 F r0 hM _ _ _ hl hP hD0.self va_S.rf (fun H1 locs1 ls1 pc1 hd hP hD hS => W.lret (v := r0) B.exec B.bytes B.returns (fun t ht hW => ⟨⟨r0, (), rfl, rfl, by rw [ht]; exact hP, hD⟩, hS.F ht⟩) hS.2.2 hd)

def fnX0_isKnownBy (F : Nat) (c_knows : Nat → Int64) (a1 : Int32) (a2 : Int32) : Option (Int32) :=
  sx_gd (sx_ib a1 6) (sx_c1 (fnX4_byteOf F a2) (fun (r2 : Int64) => (if (lg_cmp ((c_knows (a1).toNatClampNeg) &&& r2) (0 : Int64)) = 0 then (some ((0 : Int32))) else (some ((1 : Int32))))))
set_option maxHeartbeats 4000000 in
set_option maxRecDepth 100000 in
theorem kwX0_isKnownBy {p : Program} {l : Launch} {e : Env} {R : Room} {s : State} {m : MethodId} {args : Array Value} {below : List Frame} {meth : Method} {c : Code} {cells slots : Nat} {Q : State → Prop} {A : Nat → Prop} {H0 : Heap} {D : va_G} {cI cJ cS : ClassId} (hx : p.tables.exec = Jvm.exec) (hb : c.code = cX0_isKnownBy) (hml : c.maxLocals = 3) (hown : s.vm.findClass RX0 = some m.cls) (hts : ∀ w ∈ wsX0_isKnownBy, w.before args s = true) (hN : sx_N s) (hK : va_K D vwCl (sx_T cI cJ cS) s) (hA : ∀ q, H0.size ≤ q → A q) (hRf : 1 ≤ R.frames) (hRl : 20 ≤ R.locals) (hRc : cells ≤ R.cells ∧ slots ≤ R.slots) (c_h c_kinds_a c_seating_a c_knows_a c_seals_a c_telling_a : Nat) (c_knows : Nat → Int64) (c_persons : Int32) (c_wax : Int32) (c_week : Int32) (c_day : Int32) (c_draw : Int32) (a1 : Int32) (a2 : Int32) (F : Nat) (r0 : Int32) (hM : fnX0_isKnownBy F c_knows a1 a2 = some r0) (H : Heap) (locs : List Loc) (ls : Array Slot) (hl : lv_has ls 3 [(0, .ref c_h), (1, .int a1), (2, .int a2)]) (hP : va_P D vwCl [(c_h, .inr (0, [.ref c_kinds_a, .ref c_seating_a, .ref c_knows_a, .ref c_seals_a, .ref c_telling_a, .int c_persons, .int c_wax, .int c_week, .int c_day, .int c_draw])), (c_knows_a, .inl (cJ, 6, .inr (.inl c_knows)))] H) (hD : va_D A [(c_h, .inr (0, [.ref c_kinds_a, .ref c_seating_a, .ref c_knows_a, .ref c_seals_a, .ref c_telling_a, .int c_persons, .int c_wax, .int c_week, .int c_day, .int c_draw])), (c_knows_a, .inl (cJ, 6, .inr (.inl c_knows)))]) (hS : va_S A H0 H locs)
    (hret : ∀ (H1 : Heap) (locs1 : List Loc) (ls1 : Array Slot) (pc1 : Nat), decode cX0_isKnownBy pc1 = .ok (.ireturn, 1) → narrow .boolean (.int r0) = .int r0 → va_P D vwCl [(c_h, .inr (0, [.ref c_kinds_a, .ref c_seating_a, .ref c_knows_a, .ref c_seals_a, .ref c_telling_a, .int c_persons, .int c_wax, .int c_week, .int c_day, .int c_draw])), (c_knows_a, .inl (cJ, 6, .inr (.inl c_knows)))] H1 → va_D A [(c_h, .inr (0, [.ref c_kinds_a, .ref c_seating_a, .ref c_knows_a, .ref c_seals_a, .ref c_telling_a, .int c_persons, .int c_wax, .int c_week, .int c_day, .int c_draw])), (c_knows_a, .inl (cJ, 6, .inr (.inl c_knows)))] → va_S A H0 H1 locs1 → W p l e R s m args below meth c H1 locs1 cells slots Q (F0 m pc1 ls1 [.int r0])) : W p l e R s m args below meth c H locs cells slots Q (F0 m 0 ls []) := by
  have hf_18 := hts (.fieldLink RX0 18 "SealedLips$Court" "knows" "[J") (by decide +kernel)
  have hin_X0 : ∀ w ∈ wsX00, w ∈ wsX0_isKnownBy := by decide +kernel
  unfold fnX0_isKnownBy at hM
  refine lv_aload_n hx hb dX0_isKnownBy_0 rfl (lv_at hl 0 rfl) ?_
  refine va_get (D := D) (ci := 0) (v := .ref c_knows_a) (C := RX0) (T := TX0) (N := 10) hx hb hts hin_X0 hown hK hP 0 rfl rfl 2 (by decide) hf_18 (fun _ h9 => h9) rfl dX0_isKnownBy_1 ?_
  refine lv_iload_n hx hb dX0_isKnownBy_4 rfl (lv_at hl 1 rfl) ?_
  obtain ⟨g1, hM⟩ := sx_gd_s hM
  refine va_lald hx hb hK hP 1 1 rfl rfl (sx_ib_s g1) dX0_isKnownBy_5 ?_
  refine lv_iload_n hx hb dX0_isKnownBy_6 rfl (lv_at hl 2 rfl) ?_
  obtain ⟨r2, hc3, hM⟩ := sx_c1_s hM
  refine sx_lSN (As := [.int a2]) (rest := [.long (c_knows (a1).toNatClampNeg)]) (wc := []) (wr := [(c_h, .inr (0, [.ref c_kinds_a, .ref c_seating_a, .ref c_knows_a, .ref c_seals_a, .ref c_telling_a, .int c_persons, .int c_wax, .int c_week, .int c_day, .int c_draw])), (c_knows_a, .inl (cJ, 6, .inr (.inl c_knows)))]) (w1 := []) ⟨hx, hb, hml, hown, hts⟩ (mtX4_byteOf l D cI cJ cS H.size a2 F r2 hc3) ⟨va_cnB (host := "SealedLips") 1 hts gX0_isKnownBy_X4_byteOf_n57 rfl rfl rfl (hN (.methodLinkNest "SealedLips$Court" 57 ⟨"SealedLips", "byteOf", "(I)J"⟩ "SealedLips") (by decide +kernel)) (hts (.initialized RX4) (by decide +kernel)) (by decide +kernel) ⟨Nat.le_trans (by decide) hRf, Nat.le_trans (by decide) hRl⟩, hts (.static yX4_byteOf) (by decide +kernel), trivial⟩ hK hN hP hD hS hA [] [0, 1] rfl (by decide) rfl (by decide) (by decide) rfl hl.1 rfl (Nat.le_of_ble_eq_true rfl) dX0_isKnownBy_7 hRc (fun H locs hP hD hS => ?_)
  have hP : va_P D vwCl [(c_h, .inr (0, [.ref c_kinds_a, .ref c_seating_a, .ref c_knows_a, .ref c_seals_a, .ref c_telling_a, .int c_persons, .int c_wax, .int c_week, .int c_day, .int c_draw])), (c_knows_a, .inl (cJ, 6, .inr (.inl c_knows)))] H := hP
  have hD : va_D A [(c_h, .inr (0, [.ref c_kinds_a, .ref c_seating_a, .ref c_knows_a, .ref c_seals_a, .ref c_telling_a, .int c_persons, .int c_wax, .int c_week, .int c_day, .int c_draw])), (c_knows_a, .inl (cJ, 6, .inr (.inl c_knows)))] := hD
  refine lv_land hx hb dX0_isKnownBy_10 ?_
  refine lv_lconst (v := 0) hx hb dX0_isKnownBy_11 (by decide) ?_
  refine W.lcmp hx hb dX0_isKnownBy_12 ?_
  refine lv_if_eq (tgt := 20) hx hb dX0_isKnownBy_13 (by decide) (fun c4 => ?_) (fun c4 => ?_)
  · replace hM := sx_ift c4 hM
    refine lv_iconst (v := 0) hx hb dX0_isKnownBy_20 (by decide) ?_
    obtain rfl := sx_o1 hM
    exact hret _ _ _ _ dX0_isKnownBy_21 rfl (hP.sub [0, 1] rfl) (hD.sub [0, 1] (by decide) rfl) hS
  · replace hM := sx_iff c4 hM
    refine lv_iconst (v := 1) hx hb dX0_isKnownBy_16 (by decide) ?_
    refine lv_goto (tgt := 21) hx hb dX0_isKnownBy_17 (by decide) ?_
    obtain rfl := sx_o1 hM
    exact hret _ _ _ _ dX0_isKnownBy_21 rfl (hP.sub [0, 1] rfl) (hD.sub [0, 1] (by decide) rfl) hS
set_option maxHeartbeats 4000000 in
set_option maxRecDepth 100000 in
theorem mtX0_isKnownBy (l : Launch) (D : va_G) (cI cJ cS : ClassId) (sz : Nat) (c_h c_kinds_a c_seating_a c_knows_a c_seals_a c_telling_a : Nat) (c_knows : Nat → Int64) (c_persons : Int32) (c_wax : Int32) (c_week : Int32) (c_day : Int32) (c_draw : Int32) (a1 : Int32) (a2 : Int32) (F : Nat) (r0 : Int32) (hM : fnX0_isKnownBy F c_knows a1 a2 = some r0) : sx_MI l yX0_isKnownBy wsX0_isKnownBy ({ frames := 1, cells := 0, slots := 0, locals := 20 }) D (sx_T cI cJ cS) sz [.ref c_h, .int a1, .int a2] [(c_h, .inr (0, [.ref c_kinds_a, .ref c_seating_a, .ref c_knows_a, .ref c_seals_a, .ref c_telling_a, .int c_persons, .int c_wax, .int c_week, .int c_day, .int c_draw])), (c_knows_a, .inl (cJ, 6, .inr (.inl c_knows)))] r0 [(c_h, .inr (0, [.ref c_kinds_a, .ref c_seating_a, .ref c_knows_a, .ref c_seals_a, .ref c_telling_a, .int c_persons, .int c_wax, .int c_week, .int c_day, .int c_draw])), (c_knows_a, .inl (cJ, 6, .inr (.inl c_knows)))] := by
  refine Met.ofW (cc := cX0_isKnownBy) (maxL := 3) (ret := (some .boolean)) (by decide) rfl ?_
  intro p e s m args below meth c s₁ B hml hv
  obtain ⟨rfl, hsz, hN, hP, hK, hD0⟩ := hv
  subst hsz
  have hl := lv_entry ([.ref c_h, .int a1, .int a2]) (n := 3) (Nat.le_of_ble_eq_true rfl)
  rw [lg_entry_eq]
  generalize (lg_sl ([.ref c_h, .int a1, .int a2]) ++ List.replicate (3 - (lg_sl ([.ref c_h, .int a1, .int a2])).length) Slot.unset).toArray = ls at hl ⊢
  exact kwX0_isKnownBy B.exec B.bytes hml (findClass_of_methodNamed B.named) (atoms_spec (ws := wsX0_isKnownBy) B.pre) hN hK (fun q h => Or.inr h) (by decide) (by decide) ⟨Nat.zero_le _, Nat.zero_le _⟩ c_h c_kinds_a c_seating_a c_knows_a c_seals_a c_telling_a c_knows c_persons c_wax c_week c_day c_draw a1 a2 F r0 hM _ _ _ hl hP hD0.self va_S.rf (fun H1 locs1 ls1 pc1 hd hz hP hD hS => W.zret (v := r0) B.exec B.bytes B.returns hz (fun t ht hW => ⟨⟨r0, (), rfl, rfl, by rw [ht]; exact hP, hD⟩, hS.F ht⟩) hS.2.2 hd)

def fnX0_strengthOf (F : Nat) (c_seals : Nat → Int64) (a1 : Int32) (a2 : Int32) : Option (Int32) :=
  sx_gd (sx_ib a1 6) ((some ((((((c_seals (a1).toNatClampNeg)).toUInt64 >>> ((((8 : Int32) * a2)).toInt64.toUInt64 &&& Int64.toUInt64 63)).toInt64).toInt32 &&& (127 : Int32)))))
set_option maxHeartbeats 4000000 in
set_option maxRecDepth 100000 in
theorem kwX0_strengthOf {p : Program} {l : Launch} {e : Env} {R : Room} {s : State} {m : MethodId} {args : Array Value} {below : List Frame} {meth : Method} {c : Code} {cells slots : Nat} {Q : State → Prop} {A : Nat → Prop} {H0 : Heap} {D : va_G} {cI cJ cS : ClassId} (hx : p.tables.exec = Jvm.exec) (hb : c.code = cX0_strengthOf) (hml : c.maxLocals = 3) (hown : s.vm.findClass RX0 = some m.cls) (hts : ∀ w ∈ wsX0_strengthOf, w.before args s = true) (hN : sx_N s) (hK : va_K D vwCl (sx_T cI cJ cS) s) (hA : ∀ q, H0.size ≤ q → A q) (hRf : 0 ≤ R.frames) (hRl : 0 ≤ R.locals) (hRc : cells ≤ R.cells ∧ slots ≤ R.slots) (c_h c_kinds_a c_seating_a c_knows_a c_seals_a c_telling_a : Nat) (c_seals : Nat → Int64) (c_persons : Int32) (c_wax : Int32) (c_week : Int32) (c_day : Int32) (c_draw : Int32) (a1 : Int32) (a2 : Int32) (F : Nat) (r0 : Int32) (hM : fnX0_strengthOf F c_seals a1 a2 = some r0) (H : Heap) (locs : List Loc) (ls : Array Slot) (hl : lv_has ls 3 [(0, .ref c_h), (1, .int a1), (2, .int a2)]) (hP : va_P D vwCl [(c_h, .inr (0, [.ref c_kinds_a, .ref c_seating_a, .ref c_knows_a, .ref c_seals_a, .ref c_telling_a, .int c_persons, .int c_wax, .int c_week, .int c_day, .int c_draw])), (c_seals_a, .inl (cJ, 6, .inr (.inl c_seals)))] H) (hD : va_D A [(c_h, .inr (0, [.ref c_kinds_a, .ref c_seating_a, .ref c_knows_a, .ref c_seals_a, .ref c_telling_a, .int c_persons, .int c_wax, .int c_week, .int c_day, .int c_draw])), (c_seals_a, .inl (cJ, 6, .inr (.inl c_seals)))]) (hS : va_S A H0 H locs)
    (hret : ∀ (H1 : Heap) (locs1 : List Loc) (ls1 : Array Slot) (pc1 : Nat), decode cX0_strengthOf pc1 = .ok (.ireturn, 1) → va_P D vwCl [(c_h, .inr (0, [.ref c_kinds_a, .ref c_seating_a, .ref c_knows_a, .ref c_seals_a, .ref c_telling_a, .int c_persons, .int c_wax, .int c_week, .int c_day, .int c_draw])), (c_seals_a, .inl (cJ, 6, .inr (.inl c_seals)))] H1 → va_D A [(c_h, .inr (0, [.ref c_kinds_a, .ref c_seating_a, .ref c_knows_a, .ref c_seals_a, .ref c_telling_a, .int c_persons, .int c_wax, .int c_week, .int c_day, .int c_draw])), (c_seals_a, .inl (cJ, 6, .inr (.inl c_seals)))] → va_S A H0 H1 locs1 → W p l e R s m args below meth c H1 locs1 cells slots Q (F0 m pc1 ls1 [.int r0])) : W p l e R s m args below meth c H locs cells slots Q (F0 m 0 ls []) := by
  have hf_22 := hts (.fieldLink RX0 22 "SealedLips$Court" "seals" "[J") (by decide +kernel)
  have hin_X0 : ∀ w ∈ wsX00, w ∈ wsX0_strengthOf := by decide +kernel
  unfold fnX0_strengthOf at hM
  refine lv_aload_n hx hb dX0_strengthOf_0 rfl (lv_at hl 0 rfl) ?_
  refine va_get (D := D) (ci := 0) (v := .ref c_seals_a) (C := RX0) (T := TX0) (N := 10) hx hb hts hin_X0 hown hK hP 0 rfl rfl 3 (by decide) hf_22 (fun _ h9 => h9) rfl dX0_strengthOf_1 ?_
  refine lv_iload_n hx hb dX0_strengthOf_4 rfl (lv_at hl 1 rfl) ?_
  obtain ⟨g1, hM⟩ := sx_gd_s hM
  refine va_lald hx hb hK hP 1 1 rfl rfl (sx_ib_s g1) dX0_strengthOf_5 ?_
  refine lv_bipush (v := 8) hx hb dX0_strengthOf_6 (by decide) ?_
  refine lv_iload_n hx hb dX0_strengthOf_8 rfl (lv_at hl 2 rfl) ?_
  refine lv_imul hx hb dX0_strengthOf_9 ?_
  refine lv_lushr hx hb dX0_strengthOf_10 rfl ?_
  refine lv_l2i hx hb dX0_strengthOf_11 rfl ?_
  refine lv_bipush (v := 127) hx hb dX0_strengthOf_12 (by decide) ?_
  refine lv_iand hx hb dX0_strengthOf_14 ?_
  obtain rfl := sx_o1 hM
  exact hret _ _ _ _ dX0_strengthOf_15 (hP.sub [0, 1] rfl) (hD.sub [0, 1] (by decide) rfl) hS
set_option maxHeartbeats 4000000 in
set_option maxRecDepth 100000 in
theorem mtX0_strengthOf (l : Launch) (D : va_G) (cI cJ cS : ClassId) (sz : Nat) (c_h c_kinds_a c_seating_a c_knows_a c_seals_a c_telling_a : Nat) (c_seals : Nat → Int64) (c_persons : Int32) (c_wax : Int32) (c_week : Int32) (c_day : Int32) (c_draw : Int32) (a1 : Int32) (a2 : Int32) (F : Nat) (r0 : Int32) (hM : fnX0_strengthOf F c_seals a1 a2 = some r0) : sx_MI l yX0_strengthOf wsX0_strengthOf ({ frames := 0, cells := 0, slots := 0, locals := 0 }) D (sx_T cI cJ cS) sz [.ref c_h, .int a1, .int a2] [(c_h, .inr (0, [.ref c_kinds_a, .ref c_seating_a, .ref c_knows_a, .ref c_seals_a, .ref c_telling_a, .int c_persons, .int c_wax, .int c_week, .int c_day, .int c_draw])), (c_seals_a, .inl (cJ, 6, .inr (.inl c_seals)))] r0 [(c_h, .inr (0, [.ref c_kinds_a, .ref c_seating_a, .ref c_knows_a, .ref c_seals_a, .ref c_telling_a, .int c_persons, .int c_wax, .int c_week, .int c_day, .int c_draw])), (c_seals_a, .inl (cJ, 6, .inr (.inl c_seals)))] := by
  refine Met.ofW (cc := cX0_strengthOf) (maxL := 3) (ret := (some .int)) (by decide) rfl ?_
  intro p e s m args below meth c s₁ B hml hv
  obtain ⟨rfl, hsz, hN, hP, hK, hD0⟩ := hv
  subst hsz
  have hl := lv_entry ([.ref c_h, .int a1, .int a2]) (n := 3) (Nat.le_of_ble_eq_true rfl)
  rw [lg_entry_eq]
  generalize (lg_sl ([.ref c_h, .int a1, .int a2]) ++ List.replicate (3 - (lg_sl ([.ref c_h, .int a1, .int a2])).length) Slot.unset).toArray = ls at hl ⊢
  exact kwX0_strengthOf B.exec B.bytes hml (findClass_of_methodNamed B.named) (atoms_spec (ws := wsX0_strengthOf) B.pre) hN hK (fun q h => Or.inr h) (by decide) (by decide) ⟨Nat.zero_le _, Nat.zero_le _⟩ c_h c_kinds_a c_seating_a c_knows_a c_seals_a c_telling_a c_seals c_persons c_wax c_week c_day c_draw a1 a2 F r0 hM _ _ _ hl hP hD0.self va_S.rf (fun H1 locs1 ls1 pc1 hd hP hD hS => W.iret (v := r0) B.exec B.bytes B.returns (fun t ht hW => ⟨⟨r0, (), rfl, rfl, by rw [ht]; exact hP, hD⟩, hS.F ht⟩) hS.2.2 hd)

def fnX0_learn (F : Nat) (c_knows : Nat → Int64) (c_seals : Nat → Int64) (a1 : Int32) (a2 : Int32) (a3 : Int32) : Option ((Nat → Int64) × (Nat → Int64)) :=
  sx_c1 (fnX4_byteOf F a2) (fun (r1 : Int64) => sx_gd (sx_ib a1 6) (sx_gd (sx_ib a1 6) (sx_gd (sx_ib a1 6) (sx_gd (sx_ib a1 6) ((some ((vp_updL c_knows (a1).toNatClampNeg ((c_knows (a1).toNatClampNeg) ||| r1)), (vp_updL c_seals (a1).toNatClampNeg (((c_seals (a1).toNatClampNeg) &&& ((r1 * (127 : Int64)) ^^^ (-1 : Int64))) ||| (r1 * (a3).toInt64))))))))))
set_option maxHeartbeats 4000000 in
set_option maxRecDepth 100000 in
theorem kwX0_learn {p : Program} {l : Launch} {e : Env} {R : Room} {s : State} {m : MethodId} {args : Array Value} {below : List Frame} {meth : Method} {c : Code} {cells slots : Nat} {Q : State → Prop} {A : Nat → Prop} {H0 : Heap} {D : va_G} {cI cJ cS : ClassId} (hx : p.tables.exec = Jvm.exec) (hb : c.code = cX0_learn) (hml : c.maxLocals = 6) (hown : s.vm.findClass RX0 = some m.cls) (hts : ∀ w ∈ wsX0_learn, w.before args s = true) (hN : sx_N s) (hK : va_K D vwCl (sx_T cI cJ cS) s) (hA : ∀ q, H0.size ≤ q → A q) (hRf : 1 ≤ R.frames) (hRl : 20 ≤ R.locals) (hRc : cells ≤ R.cells ∧ slots ≤ R.slots) (c_h c_kinds_a c_seating_a c_knows_a c_seals_a c_telling_a : Nat) (c_knows : Nat → Int64) (c_seals : Nat → Int64) (c_persons : Int32) (c_wax : Int32) (c_week : Int32) (c_day : Int32) (c_draw : Int32) (a1 : Int32) (a2 : Int32) (a3 : Int32) (F : Nat) (w_c_knows : Nat → Int64) (w_c_seals : Nat → Int64) (hM : fnX0_learn F c_knows c_seals a1 a2 a3 = some (w_c_knows, w_c_seals)) (H : Heap) (locs : List Loc) (ls : Array Slot) (hl : lv_has ls 6 [(0, .ref c_h), (1, .int a1), (2, .int a2), (3, .int a3)]) (hP : va_P D vwCl [(c_h, .inr (0, [.ref c_kinds_a, .ref c_seating_a, .ref c_knows_a, .ref c_seals_a, .ref c_telling_a, .int c_persons, .int c_wax, .int c_week, .int c_day, .int c_draw])), (c_knows_a, .inl (cJ, 6, .inr (.inl c_knows))), (c_seals_a, .inl (cJ, 6, .inr (.inl c_seals)))] H) (hD : va_D A [(c_h, .inr (0, [.ref c_kinds_a, .ref c_seating_a, .ref c_knows_a, .ref c_seals_a, .ref c_telling_a, .int c_persons, .int c_wax, .int c_week, .int c_day, .int c_draw])), (c_knows_a, .inl (cJ, 6, .inr (.inl c_knows))), (c_seals_a, .inl (cJ, 6, .inr (.inl c_seals)))]) (hS : va_S A H0 H locs)
    (hret : ∀ (H1 : Heap) (locs1 : List Loc) (ls1 : Array Slot) (pc1 : Nat), decode cX0_learn pc1 = .ok (.return_, 1) → va_P D vwCl [(c_h, .inr (0, [.ref c_kinds_a, .ref c_seating_a, .ref c_knows_a, .ref c_seals_a, .ref c_telling_a, .int c_persons, .int c_wax, .int c_week, .int c_day, .int c_draw])), (c_knows_a, .inl (cJ, 6, .inr (.inl w_c_knows))), (c_seals_a, .inl (cJ, 6, .inr (.inl w_c_seals)))] H1 → va_D A [(c_h, .inr (0, [.ref c_kinds_a, .ref c_seating_a, .ref c_knows_a, .ref c_seals_a, .ref c_telling_a, .int c_persons, .int c_wax, .int c_week, .int c_day, .int c_draw])), (c_knows_a, .inl (cJ, 6, .inr (.inl w_c_knows))), (c_seals_a, .inl (cJ, 6, .inr (.inl w_c_seals)))] → va_S A H0 H1 locs1 → W p l e R s m args below meth c H1 locs1 cells slots Q (F0 m pc1 ls1 [])) : W p l e R s m args below meth c H locs cells slots Q (F0 m 0 ls []) := by
  have hf_18 := hts (.fieldLink RX0 18 "SealedLips$Court" "knows" "[J") (by decide +kernel)
  have hf_22 := hts (.fieldLink RX0 22 "SealedLips$Court" "seals" "[J") (by decide +kernel)
  have hin_X0 : ∀ w ∈ wsX00, w ∈ wsX0_learn := by decide +kernel
  unfold fnX0_learn at hM
  refine lv_iload_n hx hb dX0_learn_0 rfl (lv_at hl 2 rfl) ?_
  obtain ⟨r1, hc2, hM⟩ := sx_c1_s hM
  refine sx_lSN (As := [.int a2]) (rest := []) (wc := []) (wr := [(c_h, .inr (0, [.ref c_kinds_a, .ref c_seating_a, .ref c_knows_a, .ref c_seals_a, .ref c_telling_a, .int c_persons, .int c_wax, .int c_week, .int c_day, .int c_draw])), (c_knows_a, .inl (cJ, 6, .inr (.inl c_knows))), (c_seals_a, .inl (cJ, 6, .inr (.inl c_seals)))]) (w1 := []) ⟨hx, hb, hml, hown, hts⟩ (mtX4_byteOf l D cI cJ cS H.size a2 F r1 hc2) ⟨va_cnB (host := "SealedLips") 1 hts gX0_learn_X4_byteOf_n57 rfl rfl rfl (hN (.methodLinkNest "SealedLips$Court" 57 ⟨"SealedLips", "byteOf", "(I)J"⟩ "SealedLips") (by decide +kernel)) (hts (.initialized RX4) (by decide +kernel)) (by decide +kernel) ⟨Nat.le_trans (by decide) hRf, Nat.le_trans (by decide) hRl⟩, hts (.static yX4_byteOf) (by decide +kernel), trivial⟩ hK hN hP hD hS hA [] [0, 1, 2] rfl (by decide) rfl (by decide) (by decide) rfl hl.1 rfl (Nat.le_of_ble_eq_true rfl) dX0_learn_1 hRc (fun H locs hP hD hS => ?_)
  have hP : va_P D vwCl [(c_h, .inr (0, [.ref c_kinds_a, .ref c_seating_a, .ref c_knows_a, .ref c_seals_a, .ref c_telling_a, .int c_persons, .int c_wax, .int c_week, .int c_day, .int c_draw])), (c_knows_a, .inl (cJ, 6, .inr (.inl c_knows))), (c_seals_a, .inl (cJ, 6, .inr (.inl c_seals)))] H := hP
  have hD : va_D A [(c_h, .inr (0, [.ref c_kinds_a, .ref c_seating_a, .ref c_knows_a, .ref c_seals_a, .ref c_telling_a, .int c_persons, .int c_wax, .int c_week, .int c_day, .int c_draw])), (c_knows_a, .inl (cJ, 6, .inr (.inl c_knows))), (c_seals_a, .inl (cJ, 6, .inr (.inl c_seals)))] := hD
  refine lv_lstore (lv' := [(4, .long r1), (0, .ref c_h), (1, .int a1), (2, .int a2), (3, .int a3)]) hx hb dX0_learn_4 hl (by decide) rfl (fun ls hl => ?_)
  refine lv_aload_n hx hb dX0_learn_6 rfl (lv_at hl 1 rfl) ?_
  refine va_get (D := D) (ci := 0) (v := .ref c_knows_a) (C := RX0) (T := TX0) (N := 10) hx hb hts hin_X0 hown hK hP 0 rfl rfl 2 (by decide) hf_18 (fun _ h9 => h9) rfl dX0_learn_7 ?_
  refine lv_iload_n hx hb dX0_learn_10 rfl (lv_at hl 2 rfl) ?_
  refine lv_dup2_11 hx hb dX0_learn_11 rfl rfl ?_
  obtain ⟨g3, hM⟩ := sx_gd_s hM
  refine va_lald hx hb hK hP 1 1 rfl rfl (sx_ib_s g3) dX0_learn_12 ?_
  refine lv_lload hx hb dX0_learn_13 (lv_at hl 0 rfl) ?_
  refine lv_lor hx hb dX0_learn_15 ?_
  obtain ⟨g4, hM⟩ := sx_gd_s hM
  refine va_last hx hb hK hP hD hS 1 1 rfl rfl (sx_ib_s g4) dX0_learn_16 (fun H locs hP hD hS => ?_)
  have hP : va_P D vwCl [(c_h, .inr (0, [.ref c_kinds_a, .ref c_seating_a, .ref c_knows_a, .ref c_seals_a, .ref c_telling_a, .int c_persons, .int c_wax, .int c_week, .int c_day, .int c_draw])), (c_knows_a, .inl (cJ, 6, .inr (.inl (vp_updL c_knows (a1).toNatClampNeg ((c_knows (a1).toNatClampNeg) ||| r1))))), (c_seals_a, .inl (cJ, 6, .inr (.inl c_seals)))] H := hP
  have hD : va_D A [(c_h, .inr (0, [.ref c_kinds_a, .ref c_seating_a, .ref c_knows_a, .ref c_seals_a, .ref c_telling_a, .int c_persons, .int c_wax, .int c_week, .int c_day, .int c_draw])), (c_knows_a, .inl (cJ, 6, .inr (.inl (vp_updL c_knows (a1).toNatClampNeg ((c_knows (a1).toNatClampNeg) ||| r1))))), (c_seals_a, .inl (cJ, 6, .inr (.inl c_seals)))] := hD
  refine lv_aload_n hx hb dX0_learn_17 rfl (lv_at hl 1 rfl) ?_
  refine va_get (D := D) (ci := 0) (v := .ref c_seals_a) (C := RX0) (T := TX0) (N := 10) hx hb hts hin_X0 hown hK hP 0 rfl rfl 3 (by decide) hf_22 (fun _ h9 => h9) rfl dX0_learn_18 ?_
  refine lv_iload_n hx hb dX0_learn_21 rfl (lv_at hl 2 rfl) ?_
  refine lv_aload_n hx hb dX0_learn_22 rfl (lv_at hl 1 rfl) ?_
  refine va_get (D := D) (ci := 0) (v := .ref c_seals_a) (C := RX0) (T := TX0) (N := 10) hx hb hts hin_X0 hown hK hP 0 rfl rfl 3 (by decide) hf_22 (fun _ h9 => h9) rfl dX0_learn_23 ?_
  refine lv_iload_n hx hb dX0_learn_26 rfl (lv_at hl 2 rfl) ?_
  obtain ⟨g5, hM⟩ := sx_gd_s hM
  refine va_lald hx hb hK hP 2 1 rfl rfl (sx_ib_s g5) dX0_learn_27 ?_
  refine lv_lload hx hb dX0_learn_28 (lv_at hl 0 rfl) ?_
  refine lv_ldc2 (v := 127) hx hb hown (hts (.constantLong RX0 61 (127)) (by decide +kernel)) dX0_learn_30 ?_
  refine lv_lmul hx hb dX0_learn_33 ?_
  refine lv_ldc2 (v := -1) hx hb hown (hts (.constantLong RX0 63 (-1)) (by decide +kernel)) dX0_learn_34 ?_
  refine lv_lxor hx hb dX0_learn_37 ?_
  refine lv_land hx hb dX0_learn_38 ?_
  refine lv_lload hx hb dX0_learn_39 (lv_at hl 0 rfl) ?_
  refine lv_iload_n hx hb dX0_learn_41 rfl (lv_at hl 4 rfl) ?_
  refine lv_i2l hx hb dX0_learn_42 rfl ?_
  refine lv_lmul hx hb dX0_learn_43 ?_
  refine lv_lor hx hb dX0_learn_44 ?_
  obtain ⟨g6, hM⟩ := sx_gd_s hM
  refine va_last hx hb hK hP hD hS 2 1 rfl rfl (sx_ib_s g6) dX0_learn_45 (fun H locs hP hD hS => ?_)
  have hP : va_P D vwCl [(c_h, .inr (0, [.ref c_kinds_a, .ref c_seating_a, .ref c_knows_a, .ref c_seals_a, .ref c_telling_a, .int c_persons, .int c_wax, .int c_week, .int c_day, .int c_draw])), (c_knows_a, .inl (cJ, 6, .inr (.inl (vp_updL c_knows (a1).toNatClampNeg ((c_knows (a1).toNatClampNeg) ||| r1))))), (c_seals_a, .inl (cJ, 6, .inr (.inl (vp_updL c_seals (a1).toNatClampNeg (((c_seals (a1).toNatClampNeg) &&& ((r1 * (127 : Int64)) ^^^ (-1 : Int64))) ||| (r1 * (a3).toInt64))))))] H := hP
  have hD : va_D A [(c_h, .inr (0, [.ref c_kinds_a, .ref c_seating_a, .ref c_knows_a, .ref c_seals_a, .ref c_telling_a, .int c_persons, .int c_wax, .int c_week, .int c_day, .int c_draw])), (c_knows_a, .inl (cJ, 6, .inr (.inl (vp_updL c_knows (a1).toNatClampNeg ((c_knows (a1).toNatClampNeg) ||| r1))))), (c_seals_a, .inl (cJ, 6, .inr (.inl (vp_updL c_seals (a1).toNatClampNeg (((c_seals (a1).toNatClampNeg) &&& ((r1 * (127 : Int64)) ^^^ (-1 : Int64))) ||| (r1 * (a3).toInt64))))))] := hD
  obtain ⟨rfl, rfl⟩ := sx_o2 hM
  exact hret _ _ _ _ dX0_learn_46 (hP.sub [0, 1, 2] rfl) (hD.sub [0, 1, 2] (by decide) rfl) hS
set_option maxHeartbeats 4000000 in
set_option maxRecDepth 100000 in
theorem mtX0_learn (l : Launch) (D : va_G) (cI cJ cS : ClassId) (sz : Nat) (c_h c_kinds_a c_seating_a c_knows_a c_seals_a c_telling_a : Nat) (c_knows : Nat → Int64) (c_seals : Nat → Int64) (c_persons : Int32) (c_wax : Int32) (c_week : Int32) (c_day : Int32) (c_draw : Int32) (a1 : Int32) (a2 : Int32) (a3 : Int32) (F : Nat) (w_c_knows : Nat → Int64) (w_c_seals : Nat → Int64) (hM : fnX0_learn F c_knows c_seals a1 a2 a3 = some (w_c_knows, w_c_seals)) : sx_MV l yX0_learn wsX0_learn ({ frames := 1, cells := 0, slots := 0, locals := 20 }) D (sx_T cI cJ cS) sz [.ref c_h, .int a1, .int a2, .int a3] [(c_h, .inr (0, [.ref c_kinds_a, .ref c_seating_a, .ref c_knows_a, .ref c_seals_a, .ref c_telling_a, .int c_persons, .int c_wax, .int c_week, .int c_day, .int c_draw])), (c_knows_a, .inl (cJ, 6, .inr (.inl c_knows))), (c_seals_a, .inl (cJ, 6, .inr (.inl c_seals)))] [(c_h, .inr (0, [.ref c_kinds_a, .ref c_seating_a, .ref c_knows_a, .ref c_seals_a, .ref c_telling_a, .int c_persons, .int c_wax, .int c_week, .int c_day, .int c_draw])), (c_knows_a, .inl (cJ, 6, .inr (.inl w_c_knows))), (c_seals_a, .inl (cJ, 6, .inr (.inl w_c_seals)))] := by
  refine Met.ofW (cc := cX0_learn) (maxL := 6) (ret := none) (by decide) rfl ?_
  intro p e s m args below meth c s₁ B hml hv
  obtain ⟨rfl, hsz, hN, hP, hK, hD0⟩ := hv
  subst hsz
  have hl := lv_entry ([.ref c_h, .int a1, .int a2, .int a3]) (n := 6) (Nat.le_of_ble_eq_true rfl)
  rw [lg_entry_eq]
  generalize (lg_sl ([.ref c_h, .int a1, .int a2, .int a3]) ++ List.replicate (6 - (lg_sl ([.ref c_h, .int a1, .int a2, .int a3])).length) Slot.unset).toArray = ls at hl ⊢
  exact kwX0_learn B.exec B.bytes hml (findClass_of_methodNamed B.named) (atoms_spec (ws := wsX0_learn) B.pre) hN hK (fun q h => Or.inr h) (by decide) (by decide) ⟨Nat.zero_le _, Nat.zero_le _⟩ c_h c_kinds_a c_seating_a c_knows_a c_seals_a c_telling_a c_knows c_seals c_persons c_wax c_week c_day c_draw a1 a2 a3 F w_c_knows w_c_seals hM _ _ _ hl hP hD0.self va_S.rf (fun H1 locs1 ls1 pc1 hd hP hD hS => W.vret B.exec B.bytes B.returns (fun t ht hW => ⟨⟨(), rfl, trivial, by rw [ht]; exact hP, hD⟩, hS.F ht⟩) hS.2.2 hd)

def bdX0_forgetThing_8 (F : Nat) (x2_ : Int64) (c_persons : Int32) (r_ : Int32 → (Nat → Int64) → (Nat → Int64) → Option ((Nat → Int64) × (Nat → Int64))) (x4_ : Int32) (c_knows : Nat → Int64) (c_seals : Nat → Int64) : Option ((Nat → Int64) × (Nat → Int64)) :=
  (if c_persons ≤ x4_ then (some (c_knows, c_seals)) else sx_gd (sx_ib x4_ 6) (sx_gd (sx_ib x4_ 6) (sx_gd (sx_ib x4_ 6) (sx_gd (sx_ib x4_ 6) (sx_nm (x4_ + (1 : Int32)) (fun (v11 : Int32) => (r_ v11 (vp_updL c_knows (x4_).toNatClampNeg ((c_knows (x4_).toNatClampNeg) &&& (x2_ ^^^ (-1 : Int64)))) (vp_updL c_seals (x4_).toNatClampNeg ((c_seals (x4_).toNatClampNeg) &&& ((x2_ * (127 : Int64)) ^^^ (-1 : Int64)))))))))))
def fnX0_forgetThing (F : Nat) (c_knows : Nat → Int64) (c_seals : Nat → Int64) (c_persons : Int32) (a1 : Int32) : Option ((Nat → Int64) × (Nat → Int64)) :=
  sx_c1 (fnX4_byteOf F a1) (fun (r1 : Int64) => sx_lp3 (bdX0_forgetThing_8 F r1 c_persons) F (0 : Int32) c_knows c_seals)
set_option maxHeartbeats 4000000 in
set_option maxRecDepth 100000 in
theorem kwX0_forgetThing {p : Program} {l : Launch} {e : Env} {R : Room} {s : State} {m : MethodId} {args : Array Value} {below : List Frame} {meth : Method} {c : Code} {cells slots : Nat} {Q : State → Prop} {A : Nat → Prop} {H0 : Heap} {D : va_G} {cI cJ cS : ClassId} (hx : p.tables.exec = Jvm.exec) (hb : c.code = cX0_forgetThing) (hml : c.maxLocals = 5) (hown : s.vm.findClass RX0 = some m.cls) (hts : ∀ w ∈ wsX0_forgetThing, w.before args s = true) (hN : sx_N s) (hK : va_K D vwCl (sx_T cI cJ cS) s) (hA : ∀ q, H0.size ≤ q → A q) (hRf : 1 ≤ R.frames) (hRl : 20 ≤ R.locals) (hRc : cells ≤ R.cells ∧ slots ≤ R.slots) (c_h c_kinds_a c_seating_a c_knows_a c_seals_a c_telling_a : Nat) (c_knows : Nat → Int64) (c_seals : Nat → Int64) (c_persons : Int32) (c_wax : Int32) (c_week : Int32) (c_day : Int32) (c_draw : Int32) (a1 : Int32) (F : Nat) (w_c_knows : Nat → Int64) (w_c_seals : Nat → Int64) (hM : fnX0_forgetThing F c_knows c_seals c_persons a1 = some (w_c_knows, w_c_seals)) (H : Heap) (locs : List Loc) (ls : Array Slot) (hl : lv_has ls 5 [(0, .ref c_h), (1, .int a1)]) (hP : va_P D vwCl [(c_h, .inr (0, [.ref c_kinds_a, .ref c_seating_a, .ref c_knows_a, .ref c_seals_a, .ref c_telling_a, .int c_persons, .int c_wax, .int c_week, .int c_day, .int c_draw])), (c_knows_a, .inl (cJ, 6, .inr (.inl c_knows))), (c_seals_a, .inl (cJ, 6, .inr (.inl c_seals)))] H) (hD : va_D A [(c_h, .inr (0, [.ref c_kinds_a, .ref c_seating_a, .ref c_knows_a, .ref c_seals_a, .ref c_telling_a, .int c_persons, .int c_wax, .int c_week, .int c_day, .int c_draw])), (c_knows_a, .inl (cJ, 6, .inr (.inl c_knows))), (c_seals_a, .inl (cJ, 6, .inr (.inl c_seals)))]) (hS : va_S A H0 H locs)
    (hret : ∀ (H1 : Heap) (locs1 : List Loc) (ls1 : Array Slot) (pc1 : Nat), decode cX0_forgetThing pc1 = .ok (.return_, 1) → va_P D vwCl [(c_h, .inr (0, [.ref c_kinds_a, .ref c_seating_a, .ref c_knows_a, .ref c_seals_a, .ref c_telling_a, .int c_persons, .int c_wax, .int c_week, .int c_day, .int c_draw])), (c_knows_a, .inl (cJ, 6, .inr (.inl w_c_knows))), (c_seals_a, .inl (cJ, 6, .inr (.inl w_c_seals)))] H1 → va_D A [(c_h, .inr (0, [.ref c_kinds_a, .ref c_seating_a, .ref c_knows_a, .ref c_seals_a, .ref c_telling_a, .int c_persons, .int c_wax, .int c_week, .int c_day, .int c_draw])), (c_knows_a, .inl (cJ, 6, .inr (.inl w_c_knows))), (c_seals_a, .inl (cJ, 6, .inr (.inl w_c_seals)))] → va_S A H0 H1 locs1 → W p l e R s m args below meth c H1 locs1 cells slots Q (F0 m pc1 ls1 [])) : W p l e R s m args below meth c H locs cells slots Q (F0 m 0 ls []) := by
  have hf_18 := hts (.fieldLink RX0 18 "SealedLips$Court" "knows" "[J") (by decide +kernel)
  have hf_22 := hts (.fieldLink RX0 22 "SealedLips$Court" "seals" "[J") (by decide +kernel)
  have hf_44 := hts (.fieldLink RX0 44 "SealedLips$Court" "persons" "I") (by decide +kernel)
  have hin_X0 : ∀ w ∈ wsX00, w ∈ wsX0_forgetThing := by decide +kernel
  unfold fnX0_forgetThing at hM
  refine lv_iload_n hx hb dX0_forgetThing_0 rfl (lv_at hl 1 rfl) ?_
  obtain ⟨r1, hc2, hM⟩ := sx_c1_s hM
  refine sx_lSN (As := [.int a1]) (rest := []) (wc := []) (wr := [(c_h, .inr (0, [.ref c_kinds_a, .ref c_seating_a, .ref c_knows_a, .ref c_seals_a, .ref c_telling_a, .int c_persons, .int c_wax, .int c_week, .int c_day, .int c_draw])), (c_knows_a, .inl (cJ, 6, .inr (.inl c_knows))), (c_seals_a, .inl (cJ, 6, .inr (.inl c_seals)))]) (w1 := []) ⟨hx, hb, hml, hown, hts⟩ (mtX4_byteOf l D cI cJ cS H.size a1 F r1 hc2) ⟨va_cnB (host := "SealedLips") 1 hts gX0_forgetThing_X4_byteOf_n57 rfl rfl rfl (hN (.methodLinkNest "SealedLips$Court" 57 ⟨"SealedLips", "byteOf", "(I)J"⟩ "SealedLips") (by decide +kernel)) (hts (.initialized RX4) (by decide +kernel)) (by decide +kernel) ⟨Nat.le_trans (by decide) hRf, Nat.le_trans (by decide) hRl⟩, hts (.static yX4_byteOf) (by decide +kernel), trivial⟩ hK hN hP hD hS hA [] [0, 1, 2] rfl (by decide) rfl (by decide) (by decide) rfl hl.1 rfl (Nat.le_of_ble_eq_true rfl) dX0_forgetThing_1 hRc (fun H locs hP hD hS => ?_)
  have hP : va_P D vwCl [(c_h, .inr (0, [.ref c_kinds_a, .ref c_seating_a, .ref c_knows_a, .ref c_seals_a, .ref c_telling_a, .int c_persons, .int c_wax, .int c_week, .int c_day, .int c_draw])), (c_knows_a, .inl (cJ, 6, .inr (.inl c_knows))), (c_seals_a, .inl (cJ, 6, .inr (.inl c_seals)))] H := hP
  have hD : va_D A [(c_h, .inr (0, [.ref c_kinds_a, .ref c_seating_a, .ref c_knows_a, .ref c_seals_a, .ref c_telling_a, .int c_persons, .int c_wax, .int c_week, .int c_day, .int c_draw])), (c_knows_a, .inl (cJ, 6, .inr (.inl c_knows))), (c_seals_a, .inl (cJ, 6, .inr (.inl c_seals)))] := hD
  refine lv_lstore_n (lv' := [(2, .long r1), (0, .ref c_h), (1, .int a1)]) hx hb dX0_forgetThing_4 rfl hl (by decide) rfl (fun ls hl => ?_)
  refine lv_iconst (v := 0) hx hb dX0_forgetThing_5 (by decide) ?_
  refine lv_istore (lv' := [(4, .int (0 : Int32)), (2, .long r1), (0, .ref c_h), (1, .int a1)]) hx hb dX0_forgetThing_6 hl (by decide) rfl (fun ls hl => ?_)
  have lp_8 : ∀ (n : Nat) (x3 : Int32) (z4 : Nat → Int64) (z5 : Nat → Int64) (H : Heap) (locs : List Loc) (ls : Array Slot), sx_lp3 (bdX0_forgetThing_8 F r1 c_persons) n x3 z4 z5 = some (w_c_knows, w_c_seals) → lv_has ls 5 [(0, .ref c_h), (2, .long r1), (4, .int x3)] → va_P D vwCl [(c_h, .inr (0, [.ref c_kinds_a, .ref c_seating_a, .ref c_knows_a, .ref c_seals_a, .ref c_telling_a, .int c_persons, .int c_wax, .int c_week, .int c_day, .int c_draw])), (c_knows_a, .inl (cJ, 6, .inr (.inl z4))), (c_seals_a, .inl (cJ, 6, .inr (.inl z5)))] H → va_D A [(c_h, .inr (0, [.ref c_kinds_a, .ref c_seating_a, .ref c_knows_a, .ref c_seals_a, .ref c_telling_a, .int c_persons, .int c_wax, .int c_week, .int c_day, .int c_draw])), (c_knows_a, .inl (cJ, 6, .inr (.inl z4))), (c_seals_a, .inl (cJ, 6, .inr (.inl z5)))] → va_S A H0 H locs → W p l e R s m args below meth c H locs cells slots Q (F0 m 8 ls ([])) := by
    intro n
    induction n with
    | zero => intro x3 z4 z5 H locs ls hM; exact (sx_lp3_0 hM).elim
    | succ n ih =>
      intro x3 z4 z5 H locs ls hM hl hP hD hS
      have hM : bdX0_forgetThing_8 F r1 c_persons (sx_lp3 (bdX0_forgetThing_8 F r1 c_persons) n) x3 z4 z5 = some (w_c_knows, w_c_seals) := hM
      generalize sx_lp3 (bdX0_forgetThing_8 F r1 c_persons) n = r_8 at hM ih
      unfold bdX0_forgetThing_8 at hM
      refine lv_iload hx hb dX0_forgetThing_8 (lv_at hl 2 rfl) ?_
      refine lv_aload_n hx hb dX0_forgetThing_10 rfl (lv_at hl 0 rfl) ?_
      refine va_get (D := D) (ci := 0) (v := .int c_persons) (C := RX0) (T := TX0) (N := 10) hx hb hts hin_X0 hown hK hP 0 rfl rfl 5 (by decide) hf_44 (fun _ h9 => h9) rfl dX0_forgetThing_11 ?_
      refine lv_icmp_ge (tgt := 57) hx hb dX0_forgetThing_14 (by decide) (fun c6 => ?_) (fun c6 => ?_)
      · replace hM := sx_ift c6 hM
        obtain ⟨rfl, rfl⟩ := sx_o2 hM
        exact hret _ _ _ _ dX0_forgetThing_57 (hP.sub [0, 1, 2] rfl) (hD.sub [0, 1, 2] (by decide) rfl) hS
      · replace hM := sx_iff c6 hM
        refine lv_aload_n hx hb dX0_forgetThing_17 rfl (lv_at hl 0 rfl) ?_
        refine va_get (D := D) (ci := 0) (v := .ref c_knows_a) (C := RX0) (T := TX0) (N := 10) hx hb hts hin_X0 hown hK hP 0 rfl rfl 2 (by decide) hf_18 (fun _ h9 => h9) rfl dX0_forgetThing_18 ?_
        refine lv_iload hx hb dX0_forgetThing_21 (lv_at hl 2 rfl) ?_
        refine lv_dup2_11 hx hb dX0_forgetThing_23 rfl rfl ?_
        obtain ⟨g7, hM⟩ := sx_gd_s hM
        refine va_lald hx hb hK hP 1 1 rfl rfl (sx_ib_s g7) dX0_forgetThing_24 ?_
        refine lv_lload_n hx hb dX0_forgetThing_25 rfl (lv_at hl 1 rfl) ?_
        refine lv_ldc2 (v := -1) hx hb hown (hts (.constantLong RX0 63 (-1)) (by decide +kernel)) dX0_forgetThing_26 ?_
        refine lv_lxor hx hb dX0_forgetThing_29 ?_
        refine lv_land hx hb dX0_forgetThing_30 ?_
        obtain ⟨g8, hM⟩ := sx_gd_s hM
        refine va_last hx hb hK hP hD hS 1 1 rfl rfl (sx_ib_s g8) dX0_forgetThing_31 (fun H locs hP hD hS => ?_)
        have hP : va_P D vwCl [(c_h, .inr (0, [.ref c_kinds_a, .ref c_seating_a, .ref c_knows_a, .ref c_seals_a, .ref c_telling_a, .int c_persons, .int c_wax, .int c_week, .int c_day, .int c_draw])), (c_knows_a, .inl (cJ, 6, .inr (.inl (vp_updL z4 (x3).toNatClampNeg ((z4 (x3).toNatClampNeg) &&& (r1 ^^^ (-1 : Int64))))))), (c_seals_a, .inl (cJ, 6, .inr (.inl z5)))] H := hP
        have hD : va_D A [(c_h, .inr (0, [.ref c_kinds_a, .ref c_seating_a, .ref c_knows_a, .ref c_seals_a, .ref c_telling_a, .int c_persons, .int c_wax, .int c_week, .int c_day, .int c_draw])), (c_knows_a, .inl (cJ, 6, .inr (.inl (vp_updL z4 (x3).toNatClampNeg ((z4 (x3).toNatClampNeg) &&& (r1 ^^^ (-1 : Int64))))))), (c_seals_a, .inl (cJ, 6, .inr (.inl z5)))] := hD
        refine lv_aload_n hx hb dX0_forgetThing_32 rfl (lv_at hl 0 rfl) ?_
        refine va_get (D := D) (ci := 0) (v := .ref c_seals_a) (C := RX0) (T := TX0) (N := 10) hx hb hts hin_X0 hown hK hP 0 rfl rfl 3 (by decide) hf_22 (fun _ h9 => h9) rfl dX0_forgetThing_33 ?_
        refine lv_iload hx hb dX0_forgetThing_36 (lv_at hl 2 rfl) ?_
        refine lv_dup2_11 hx hb dX0_forgetThing_38 rfl rfl ?_
        obtain ⟨g9, hM⟩ := sx_gd_s hM
        refine va_lald hx hb hK hP 2 1 rfl rfl (sx_ib_s g9) dX0_forgetThing_39 ?_
        refine lv_lload_n hx hb dX0_forgetThing_40 rfl (lv_at hl 1 rfl) ?_
        refine lv_ldc2 (v := 127) hx hb hown (hts (.constantLong RX0 61 (127)) (by decide +kernel)) dX0_forgetThing_41 ?_
        refine lv_lmul hx hb dX0_forgetThing_44 ?_
        refine lv_ldc2 (v := -1) hx hb hown (hts (.constantLong RX0 63 (-1)) (by decide +kernel)) dX0_forgetThing_45 ?_
        refine lv_lxor hx hb dX0_forgetThing_48 ?_
        refine lv_land hx hb dX0_forgetThing_49 ?_
        obtain ⟨g10, hM⟩ := sx_gd_s hM
        refine va_last hx hb hK hP hD hS 2 1 rfl rfl (sx_ib_s g10) dX0_forgetThing_50 (fun H locs hP hD hS => ?_)
        have hP : va_P D vwCl [(c_h, .inr (0, [.ref c_kinds_a, .ref c_seating_a, .ref c_knows_a, .ref c_seals_a, .ref c_telling_a, .int c_persons, .int c_wax, .int c_week, .int c_day, .int c_draw])), (c_knows_a, .inl (cJ, 6, .inr (.inl (vp_updL z4 (x3).toNatClampNeg ((z4 (x3).toNatClampNeg) &&& (r1 ^^^ (-1 : Int64))))))), (c_seals_a, .inl (cJ, 6, .inr (.inl (vp_updL z5 (x3).toNatClampNeg ((z5 (x3).toNatClampNeg) &&& ((r1 * (127 : Int64)) ^^^ (-1 : Int64)))))))] H := hP
        have hD : va_D A [(c_h, .inr (0, [.ref c_kinds_a, .ref c_seating_a, .ref c_knows_a, .ref c_seals_a, .ref c_telling_a, .int c_persons, .int c_wax, .int c_week, .int c_day, .int c_draw])), (c_knows_a, .inl (cJ, 6, .inr (.inl (vp_updL z4 (x3).toNatClampNeg ((z4 (x3).toNatClampNeg) &&& (r1 ^^^ (-1 : Int64))))))), (c_seals_a, .inl (cJ, 6, .inr (.inl (vp_updL z5 (x3).toNatClampNeg ((z5 (x3).toNatClampNeg) &&& ((r1 * (127 : Int64)) ^^^ (-1 : Int64)))))))] := hD
        obtain ⟨v11, ev11, hM⟩ := sx_nm_s hM
        refine lv_iinc (v := v11) (lv' := [(4, .int v11), (0, .ref c_h), (2, .long r1)]) hx hb dX0_forgetThing_51 hl (k := 2) rfl (by rw [ev11]; rfl) (by decide) rfl (fun ls hl => ?_)
        refine lv_goto (tgt := 8) hx hb dX0_forgetThing_54 (by decide) ?_
        exact ih v11 (vp_updL z4 (x3).toNatClampNeg ((z4 (x3).toNatClampNeg) &&& (r1 ^^^ (-1 : Int64)))) (vp_updL z5 (x3).toNatClampNeg ((z5 (x3).toNatClampNeg) &&& ((r1 * (127 : Int64)) ^^^ (-1 : Int64)))) _ _ _ hM (lv_sub hl [1, 2, 0] rfl) (hP.sub [0, 1, 2] rfl) (hD.sub [0, 1, 2] (by decide) rfl) hS
  exact lp_8 F (0 : Int32) c_knows c_seals _ _ _ hM (lv_sub hl [2, 1, 0] rfl) (hP.sub [0, 1, 2] rfl) (hD.sub [0, 1, 2] (by decide) rfl) hS
set_option maxHeartbeats 4000000 in
set_option maxRecDepth 100000 in
theorem mtX0_forgetThing (l : Launch) (D : va_G) (cI cJ cS : ClassId) (sz : Nat) (c_h c_kinds_a c_seating_a c_knows_a c_seals_a c_telling_a : Nat) (c_knows : Nat → Int64) (c_seals : Nat → Int64) (c_persons : Int32) (c_wax : Int32) (c_week : Int32) (c_day : Int32) (c_draw : Int32) (a1 : Int32) (F : Nat) (w_c_knows : Nat → Int64) (w_c_seals : Nat → Int64) (hM : fnX0_forgetThing F c_knows c_seals c_persons a1 = some (w_c_knows, w_c_seals)) : sx_MV l yX0_forgetThing wsX0_forgetThing ({ frames := 1, cells := 0, slots := 0, locals := 20 }) D (sx_T cI cJ cS) sz [.ref c_h, .int a1] [(c_h, .inr (0, [.ref c_kinds_a, .ref c_seating_a, .ref c_knows_a, .ref c_seals_a, .ref c_telling_a, .int c_persons, .int c_wax, .int c_week, .int c_day, .int c_draw])), (c_knows_a, .inl (cJ, 6, .inr (.inl c_knows))), (c_seals_a, .inl (cJ, 6, .inr (.inl c_seals)))] [(c_h, .inr (0, [.ref c_kinds_a, .ref c_seating_a, .ref c_knows_a, .ref c_seals_a, .ref c_telling_a, .int c_persons, .int c_wax, .int c_week, .int c_day, .int c_draw])), (c_knows_a, .inl (cJ, 6, .inr (.inl w_c_knows))), (c_seals_a, .inl (cJ, 6, .inr (.inl w_c_seals)))] := by
  refine Met.ofW (cc := cX0_forgetThing) (maxL := 5) (ret := none) (by decide) rfl ?_
  intro p e s m args below meth c s₁ B hml hv
  obtain ⟨rfl, hsz, hN, hP, hK, hD0⟩ := hv
  subst hsz
  have hl := lv_entry ([.ref c_h, .int a1]) (n := 5) (Nat.le_of_ble_eq_true rfl)
  rw [lg_entry_eq]
  generalize (lg_sl ([.ref c_h, .int a1]) ++ List.replicate (5 - (lg_sl ([.ref c_h, .int a1])).length) Slot.unset).toArray = ls at hl ⊢
  exact kwX0_forgetThing B.exec B.bytes hml (findClass_of_methodNamed B.named) (atoms_spec (ws := wsX0_forgetThing) B.pre) hN hK (fun q h => Or.inr h) (by decide) (by decide) ⟨Nat.zero_le _, Nat.zero_le _⟩ c_h c_kinds_a c_seating_a c_knows_a c_seals_a c_telling_a c_knows c_seals c_persons c_wax c_week c_day c_draw a1 F w_c_knows w_c_seals hM _ _ _ hl hP hD0.self va_S.rf (fun H1 locs1 ls1 pc1 hd hP hD hS => W.vret B.exec B.bytes B.returns (fun t ht hW => ⟨⟨(), rfl, trivial, by rw [ht]; exact hP, hD⟩, hS.F ht⟩) hS.2.2 hd)

def fnX4_sealedIn (F : Nat) (a1 : Int64) : Option (Int64) :=
  (some (((((a1 + (9187201950435737471 : Int64)) &&& (-9187201950435737472 : Int64))).toUInt64 >>> (((7 : Int32)).toInt64.toUInt64 &&& Int64.toUInt64 63)).toInt64))
set_option maxHeartbeats 4000000 in
set_option maxRecDepth 100000 in
theorem kwX4_sealedIn {p : Program} {l : Launch} {e : Env} {R : Room} {s : State} {m : MethodId} {args : Array Value} {below : List Frame} {meth : Method} {c : Code} {cells slots : Nat} {Q : State → Prop} {A : Nat → Prop} {H0 : Heap} {D : va_G} {cI cJ cS : ClassId} (hx : p.tables.exec = Jvm.exec) (hb : c.code = cX4_sealedIn) (hml : c.maxLocals = 2) (hown : s.vm.findClass RX4 = some m.cls) (hts : ∀ w ∈ wsX4_sealedIn, w.before args s = true) (hN : sx_N s) (hK : va_K D vwCl (sx_T cI cJ cS) s) (hA : ∀ q, H0.size ≤ q → A q) (hRf : 0 ≤ R.frames) (hRl : 0 ≤ R.locals) (hRc : cells ≤ R.cells ∧ slots ≤ R.slots) (a1 : Int64) (F : Nat) (r0 : Int64) (hM : fnX4_sealedIn F a1 = some r0) (H : Heap) (locs : List Loc) (ls : Array Slot) (hl : lv_has ls 2 [(0, .long a1)]) (hP : va_P D vwCl [] H) (hD : va_D A []) (hS : va_S A H0 H locs)
    (hret : ∀ (H1 : Heap) (locs1 : List Loc) (ls1 : Array Slot) (pc1 : Nat), decode cX4_sealedIn pc1 = .ok (.lreturn, 1) → va_P D vwCl [] H1 → va_D A [] → va_S A H0 H1 locs1 → W p l e R s m args below meth c H1 locs1 cells slots Q (F0 m pc1 ls1 [.long r0])) : W p l e R s m args below meth c H locs cells slots Q (F0 m 0 ls []) := by
  unfold fnX4_sealedIn at hM
  refine lv_lload_n hx hb dX4_sealedIn_0 rfl (lv_at hl 0 rfl) ?_
  refine lv_ldc2 (v := 9187201950435737471) hx hb hown (hts (.constantLong RX4 263 (9187201950435737471)) (by decide +kernel)) dX4_sealedIn_1 ?_
  refine lv_ladd hx hb dX4_sealedIn_4 ?_
  refine lv_ldc2 (v := -9187201950435737472) hx hb hown (hts (.constantLong RX4 265 (-9187201950435737472)) (by decide +kernel)) dX4_sealedIn_5 ?_
  refine lv_land hx hb dX4_sealedIn_8 ?_
  refine lv_bipush (v := 7) hx hb dX4_sealedIn_9 (by decide) ?_
  refine lv_lushr hx hb dX4_sealedIn_11 rfl ?_
  obtain rfl := sx_o1 hM
  exact hret _ _ _ _ dX4_sealedIn_12 (hP.sub [] rfl) (hD.sub [] (by decide) rfl) hS
set_option maxHeartbeats 4000000 in
set_option maxRecDepth 100000 in
theorem mtX4_sealedIn (l : Launch) (D : va_G) (cI cJ cS : ClassId) (sz : Nat) (a1 : Int64) (F : Nat) (r0 : Int64) (hM : fnX4_sealedIn F a1 = some r0) : sx_ML l yX4_sealedIn wsX4_sealedIn ({ frames := 0, cells := 0, slots := 0, locals := 0 }) D (sx_T cI cJ cS) sz [.long a1] [] r0 [] := by
  refine Met.ofW (cc := cX4_sealedIn) (maxL := 2) (ret := (some .long)) (by decide) rfl ?_
  intro p e s m args below meth c s₁ B hml hv
  obtain ⟨rfl, hsz, hN, hP, hK, hD0⟩ := hv
  subst hsz
  have hl := lv_entry ([.long a1]) (n := 2) (Nat.le_of_ble_eq_true rfl)
  rw [lg_entry_eq]
  generalize (lg_sl ([.long a1]) ++ List.replicate (2 - (lg_sl ([.long a1])).length) Slot.unset).toArray = ls at hl ⊢
  exact kwX4_sealedIn B.exec B.bytes hml (findClass_of_methodNamed B.named) (atoms_spec (ws := wsX4_sealedIn) B.pre) hN hK (fun q h => Or.inr h) (by decide) (by decide) ⟨Nat.zero_le _, Nat.zero_le _⟩ a1 F r0 hM _ _ _ hl hP hD0.self va_S.rf (fun H1 locs1 ls1 pc1 hd hP hD hS => W.lret (v := r0) B.exec B.bytes B.returns (fun t ht hW => ⟨⟨r0, (), rfl, rfl, by rw [ht]; exact hP, hD⟩, hS.F ht⟩) hS.2.2 hd)

def fnX0_openOf (F : Nat) (c_knows : Nat → Int64) (c_seals : Nat → Int64) (a1 : Int32) : Option (Int64) :=
  sx_gd (sx_ib a1 6) (sx_gd (sx_ib a1 6) (sx_c1 (fnX4_sealedIn F (c_seals (a1).toNatClampNeg)) (fun (r3 : Int64) => (some (((c_knows (a1).toNatClampNeg) &&& (r3 ^^^ (-1 : Int64))))))))
set_option maxHeartbeats 4000000 in
set_option maxRecDepth 100000 in
theorem kwX0_openOf {p : Program} {l : Launch} {e : Env} {R : Room} {s : State} {m : MethodId} {args : Array Value} {below : List Frame} {meth : Method} {c : Code} {cells slots : Nat} {Q : State → Prop} {A : Nat → Prop} {H0 : Heap} {D : va_G} {cI cJ cS : ClassId} (hx : p.tables.exec = Jvm.exec) (hb : c.code = cX0_openOf) (hml : c.maxLocals = 2) (hown : s.vm.findClass RX0 = some m.cls) (hts : ∀ w ∈ wsX0_openOf, w.before args s = true) (hN : sx_N s) (hK : va_K D vwCl (sx_T cI cJ cS) s) (hA : ∀ q, H0.size ≤ q → A q) (hRf : 1 ≤ R.frames) (hRl : 21 ≤ R.locals) (hRc : cells ≤ R.cells ∧ slots ≤ R.slots) (c_h c_kinds_a c_seating_a c_knows_a c_seals_a c_telling_a : Nat) (c_knows : Nat → Int64) (c_seals : Nat → Int64) (c_persons : Int32) (c_wax : Int32) (c_week : Int32) (c_day : Int32) (c_draw : Int32) (a1 : Int32) (F : Nat) (r0 : Int64) (hM : fnX0_openOf F c_knows c_seals a1 = some r0) (H : Heap) (locs : List Loc) (ls : Array Slot) (hl : lv_has ls 2 [(0, .ref c_h), (1, .int a1)]) (hP : va_P D vwCl [(c_h, .inr (0, [.ref c_kinds_a, .ref c_seating_a, .ref c_knows_a, .ref c_seals_a, .ref c_telling_a, .int c_persons, .int c_wax, .int c_week, .int c_day, .int c_draw])), (c_knows_a, .inl (cJ, 6, .inr (.inl c_knows))), (c_seals_a, .inl (cJ, 6, .inr (.inl c_seals)))] H) (hD : va_D A [(c_h, .inr (0, [.ref c_kinds_a, .ref c_seating_a, .ref c_knows_a, .ref c_seals_a, .ref c_telling_a, .int c_persons, .int c_wax, .int c_week, .int c_day, .int c_draw])), (c_knows_a, .inl (cJ, 6, .inr (.inl c_knows))), (c_seals_a, .inl (cJ, 6, .inr (.inl c_seals)))]) (hS : va_S A H0 H locs)
    (hret : ∀ (H1 : Heap) (locs1 : List Loc) (ls1 : Array Slot) (pc1 : Nat), decode cX0_openOf pc1 = .ok (.lreturn, 1) → va_P D vwCl [(c_h, .inr (0, [.ref c_kinds_a, .ref c_seating_a, .ref c_knows_a, .ref c_seals_a, .ref c_telling_a, .int c_persons, .int c_wax, .int c_week, .int c_day, .int c_draw])), (c_knows_a, .inl (cJ, 6, .inr (.inl c_knows))), (c_seals_a, .inl (cJ, 6, .inr (.inl c_seals)))] H1 → va_D A [(c_h, .inr (0, [.ref c_kinds_a, .ref c_seating_a, .ref c_knows_a, .ref c_seals_a, .ref c_telling_a, .int c_persons, .int c_wax, .int c_week, .int c_day, .int c_draw])), (c_knows_a, .inl (cJ, 6, .inr (.inl c_knows))), (c_seals_a, .inl (cJ, 6, .inr (.inl c_seals)))] → va_S A H0 H1 locs1 → W p l e R s m args below meth c H1 locs1 cells slots Q (F0 m pc1 ls1 [.long r0])) : W p l e R s m args below meth c H locs cells slots Q (F0 m 0 ls []) := by
  have hf_18 := hts (.fieldLink RX0 18 "SealedLips$Court" "knows" "[J") (by decide +kernel)
  have hf_22 := hts (.fieldLink RX0 22 "SealedLips$Court" "seals" "[J") (by decide +kernel)
  have hin_X0 : ∀ w ∈ wsX00, w ∈ wsX0_openOf := by decide +kernel
  unfold fnX0_openOf at hM
  refine lv_aload_n hx hb dX0_openOf_0 rfl (lv_at hl 0 rfl) ?_
  refine va_get (D := D) (ci := 0) (v := .ref c_knows_a) (C := RX0) (T := TX0) (N := 10) hx hb hts hin_X0 hown hK hP 0 rfl rfl 2 (by decide) hf_18 (fun _ h9 => h9) rfl dX0_openOf_1 ?_
  refine lv_iload_n hx hb dX0_openOf_4 rfl (lv_at hl 1 rfl) ?_
  obtain ⟨g1, hM⟩ := sx_gd_s hM
  refine va_lald hx hb hK hP 1 1 rfl rfl (sx_ib_s g1) dX0_openOf_5 ?_
  refine lv_aload_n hx hb dX0_openOf_6 rfl (lv_at hl 0 rfl) ?_
  refine va_get (D := D) (ci := 0) (v := .ref c_seals_a) (C := RX0) (T := TX0) (N := 10) hx hb hts hin_X0 hown hK hP 0 rfl rfl 3 (by decide) hf_22 (fun _ h9 => h9) rfl dX0_openOf_7 ?_
  refine lv_iload_n hx hb dX0_openOf_10 rfl (lv_at hl 1 rfl) ?_
  obtain ⟨g2, hM⟩ := sx_gd_s hM
  refine va_lald hx hb hK hP 2 1 rfl rfl (sx_ib_s g2) dX0_openOf_11 ?_
  obtain ⟨r3, hc4, hM⟩ := sx_c1_s hM
  refine sx_lSN (As := [.long (c_seals (a1).toNatClampNeg)]) (rest := [.long (c_knows (a1).toNatClampNeg)]) (wc := []) (wr := [(c_h, .inr (0, [.ref c_kinds_a, .ref c_seating_a, .ref c_knows_a, .ref c_seals_a, .ref c_telling_a, .int c_persons, .int c_wax, .int c_week, .int c_day, .int c_draw])), (c_knows_a, .inl (cJ, 6, .inr (.inl c_knows))), (c_seals_a, .inl (cJ, 6, .inr (.inl c_seals)))]) (w1 := []) ⟨hx, hb, hml, hown, hts⟩ (mtX4_sealedIn l D cI cJ cS H.size (c_seals (a1).toNatClampNeg) F r3 hc4) ⟨va_cnB (host := "SealedLips") 1 hts gX0_openOf_X4_sealedIn_n65 rfl rfl rfl (hN (.methodLinkNest "SealedLips$Court" 65 ⟨"SealedLips", "sealedIn", "(J)J"⟩ "SealedLips") (by decide +kernel)) (hts (.initialized RX4) (by decide +kernel)) (by decide +kernel) ⟨Nat.le_trans (by decide) hRf, Nat.le_trans (by decide) hRl⟩, hts (.static yX4_sealedIn) (by decide +kernel), trivial⟩ hK hN hP hD hS hA [] [0, 1, 2] rfl (by decide) rfl (by decide) (by decide) rfl hl.1 rfl (Nat.le_of_ble_eq_true rfl) dX0_openOf_12 hRc (fun H locs hP hD hS => ?_)
  have hP : va_P D vwCl [(c_h, .inr (0, [.ref c_kinds_a, .ref c_seating_a, .ref c_knows_a, .ref c_seals_a, .ref c_telling_a, .int c_persons, .int c_wax, .int c_week, .int c_day, .int c_draw])), (c_knows_a, .inl (cJ, 6, .inr (.inl c_knows))), (c_seals_a, .inl (cJ, 6, .inr (.inl c_seals)))] H := hP
  have hD : va_D A [(c_h, .inr (0, [.ref c_kinds_a, .ref c_seating_a, .ref c_knows_a, .ref c_seals_a, .ref c_telling_a, .int c_persons, .int c_wax, .int c_week, .int c_day, .int c_draw])), (c_knows_a, .inl (cJ, 6, .inr (.inl c_knows))), (c_seals_a, .inl (cJ, 6, .inr (.inl c_seals)))] := hD
  refine lv_ldc2 (v := -1) hx hb hown (hts (.constantLong RX0 63 (-1)) (by decide +kernel)) dX0_openOf_15 ?_
  refine lv_lxor hx hb dX0_openOf_18 ?_
  refine lv_land hx hb dX0_openOf_19 ?_
  obtain rfl := sx_o1 hM
  exact hret _ _ _ _ dX0_openOf_20 (hP.sub [0, 1, 2] rfl) (hD.sub [0, 1, 2] (by decide) rfl) hS
set_option maxHeartbeats 4000000 in
set_option maxRecDepth 100000 in
theorem mtX0_openOf (l : Launch) (D : va_G) (cI cJ cS : ClassId) (sz : Nat) (c_h c_kinds_a c_seating_a c_knows_a c_seals_a c_telling_a : Nat) (c_knows : Nat → Int64) (c_seals : Nat → Int64) (c_persons : Int32) (c_wax : Int32) (c_week : Int32) (c_day : Int32) (c_draw : Int32) (a1 : Int32) (F : Nat) (r0 : Int64) (hM : fnX0_openOf F c_knows c_seals a1 = some r0) : sx_ML l yX0_openOf wsX0_openOf ({ frames := 1, cells := 0, slots := 0, locals := 21 }) D (sx_T cI cJ cS) sz [.ref c_h, .int a1] [(c_h, .inr (0, [.ref c_kinds_a, .ref c_seating_a, .ref c_knows_a, .ref c_seals_a, .ref c_telling_a, .int c_persons, .int c_wax, .int c_week, .int c_day, .int c_draw])), (c_knows_a, .inl (cJ, 6, .inr (.inl c_knows))), (c_seals_a, .inl (cJ, 6, .inr (.inl c_seals)))] r0 [(c_h, .inr (0, [.ref c_kinds_a, .ref c_seating_a, .ref c_knows_a, .ref c_seals_a, .ref c_telling_a, .int c_persons, .int c_wax, .int c_week, .int c_day, .int c_draw])), (c_knows_a, .inl (cJ, 6, .inr (.inl c_knows))), (c_seals_a, .inl (cJ, 6, .inr (.inl c_seals)))] := by
  refine Met.ofW (cc := cX0_openOf) (maxL := 2) (ret := (some .long)) (by decide) rfl ?_
  intro p e s m args below meth c s₁ B hml hv
  obtain ⟨rfl, hsz, hN, hP, hK, hD0⟩ := hv
  subst hsz
  have hl := lv_entry ([.ref c_h, .int a1]) (n := 2) (Nat.le_of_ble_eq_true rfl)
  rw [lg_entry_eq]
  generalize (lg_sl ([.ref c_h, .int a1]) ++ List.replicate (2 - (lg_sl ([.ref c_h, .int a1])).length) Slot.unset).toArray = ls at hl ⊢
  exact kwX0_openOf B.exec B.bytes hml (findClass_of_methodNamed B.named) (atoms_spec (ws := wsX0_openOf) B.pre) hN hK (fun q h => Or.inr h) (by decide) (by decide) ⟨Nat.zero_le _, Nat.zero_le _⟩ c_h c_kinds_a c_seating_a c_knows_a c_seals_a c_telling_a c_knows c_seals c_persons c_wax c_week c_day c_draw a1 F r0 hM _ _ _ hl hP hD0.self va_S.rf (fun H1 locs1 ls1 pc1 hd hP hD hS => W.lret (v := r0) B.exec B.bytes B.returns (fun t ht hW => ⟨⟨r0, (), rfl, rfl, by rw [ht]; exact hP, hD⟩, hS.F ht⟩) hS.2.2 hd)

def fnJ13_bitCount_95d88 (F : Nat) (a1 : Int64) : Option (Int32) :=
  sx_nm (a1 - (((a1).toUInt64 >>> (((1 : Int32)).toInt64.toUInt64 &&& Int64.toUInt64 63)).toInt64 &&& (6148914691236517205 : Int64))) (fun (v1 : Int64) => sx_nm ((v1 &&& (3689348814741910323 : Int64)) + (((v1).toUInt64 >>> (((2 : Int32)).toInt64.toUInt64 &&& Int64.toUInt64 63)).toInt64 &&& (3689348814741910323 : Int64))) (fun (v2 : Int64) => sx_nm ((v2 + ((v2).toUInt64 >>> (((4 : Int32)).toInt64.toUInt64 &&& Int64.toUInt64 63)).toInt64) &&& (1085102592571150095 : Int64)) (fun (v3 : Int64) => sx_nm (v3 + ((v3).toUInt64 >>> (((8 : Int32)).toInt64.toUInt64 &&& Int64.toUInt64 63)).toInt64) (fun (v4 : Int64) => sx_nm (v4 + ((v4).toUInt64 >>> (((16 : Int32)).toInt64.toUInt64 &&& Int64.toUInt64 63)).toInt64) (fun (v5 : Int64) => sx_nm (v5 + ((v5).toUInt64 >>> (((32 : Int32)).toInt64.toUInt64 &&& Int64.toUInt64 63)).toInt64) (fun (v6 : Int64) => (some (((v6).toInt32 &&& (127 : Int32))))))))))
set_option maxHeartbeats 4000000 in
set_option maxRecDepth 100000 in
theorem kwJ13_bitCount_95d88 {p : Program} {l : Launch} {e : Env} {R : Room} {s : State} {m : MethodId} {args : Array Value} {below : List Frame} {meth : Method} {c : Code} {cells slots : Nat} {Q : State → Prop} {A : Nat → Prop} {H0 : Heap} {D : va_G} {cI cJ cS : ClassId} (hx : p.tables.exec = Jvm.exec) (hb : c.code = cJ13_bitCount_95d88) (hml : c.maxLocals = 2) (hown : s.vm.findClass RJ13 = some m.cls) (hts : ∀ w ∈ wsJ13_bitCount_95d88, w.before args s = true) (hN : sx_N s) (hK : va_K D vwCl (sx_T cI cJ cS) s) (hA : ∀ q, H0.size ≤ q → A q) (hRf : 0 ≤ R.frames) (hRl : 0 ≤ R.locals) (hRc : cells ≤ R.cells ∧ slots ≤ R.slots) (a1 : Int64) (F : Nat) (r0 : Int32) (hM : fnJ13_bitCount_95d88 F a1 = some r0) (H : Heap) (locs : List Loc) (ls : Array Slot) (hl : lv_has ls 2 [(0, .long a1)]) (hP : va_P D vwCl [] H) (hD : va_D A []) (hS : va_S A H0 H locs)
    (hret : ∀ (H1 : Heap) (locs1 : List Loc) (ls1 : Array Slot) (pc1 : Nat), decode cJ13_bitCount_95d88 pc1 = .ok (.ireturn, 1) → va_P D vwCl [] H1 → va_D A [] → va_S A H0 H1 locs1 → W p l e R s m args below meth c H1 locs1 cells slots Q (F0 m pc1 ls1 [.int r0])) : W p l e R s m args below meth c H locs cells slots Q (F0 m 0 ls []) := by
  unfold fnJ13_bitCount_95d88 at hM
  refine lv_lload_n hx hb dJ13_bitCount_95d88_0 rfl (lv_at hl 0 rfl) ?_
  refine lv_lload_n hx hb dJ13_bitCount_95d88_1 rfl (lv_at hl 0 rfl) ?_
  refine lv_iconst (v := 1) hx hb dJ13_bitCount_95d88_2 (by decide) ?_
  refine lv_lushr hx hb dJ13_bitCount_95d88_3 rfl ?_
  refine lv_ldc2 (v := 6148914691236517205) hx hb hown (hts (.constantLong RJ13 314 (6148914691236517205)) (by decide +kernel)) dJ13_bitCount_95d88_4 ?_
  refine lv_land hx hb dJ13_bitCount_95d88_7 ?_
  refine lv_lsub hx hb dJ13_bitCount_95d88_8 ?_
  obtain ⟨v1, ev1, hM⟩ := sx_nm_s hM
  refine W.eq (g2 := F0 m 9 ls (.long v1 :: [])) (by subst ev1; rfl) ?_
  refine lv_lstore_n (lv' := [(0, .long v1)]) hx hb dJ13_bitCount_95d88_9 rfl hl (by decide) rfl (fun ls hl => ?_)
  refine lv_lload_n hx hb dJ13_bitCount_95d88_10 rfl (lv_at hl 0 rfl) ?_
  refine lv_ldc2 (v := 3689348814741910323) hx hb hown (hts (.constantLong RJ13 316 (3689348814741910323)) (by decide +kernel)) dJ13_bitCount_95d88_11 ?_
  refine lv_land hx hb dJ13_bitCount_95d88_14 ?_
  refine lv_lload_n hx hb dJ13_bitCount_95d88_15 rfl (lv_at hl 0 rfl) ?_
  refine lv_iconst (v := 2) hx hb dJ13_bitCount_95d88_16 (by decide) ?_
  refine lv_lushr hx hb dJ13_bitCount_95d88_17 rfl ?_
  refine lv_ldc2 (v := 3689348814741910323) hx hb hown (hts (.constantLong RJ13 316 (3689348814741910323)) (by decide +kernel)) dJ13_bitCount_95d88_18 ?_
  refine lv_land hx hb dJ13_bitCount_95d88_21 ?_
  refine lv_ladd hx hb dJ13_bitCount_95d88_22 ?_
  obtain ⟨v2, ev2, hM⟩ := sx_nm_s hM
  refine W.eq (g2 := F0 m 23 ls (.long v2 :: [])) (by subst ev2; rfl) ?_
  refine lv_lstore_n (lv' := [(0, .long v2)]) hx hb dJ13_bitCount_95d88_23 rfl hl (by decide) rfl (fun ls hl => ?_)
  refine lv_lload_n hx hb dJ13_bitCount_95d88_24 rfl (lv_at hl 0 rfl) ?_
  refine lv_lload_n hx hb dJ13_bitCount_95d88_25 rfl (lv_at hl 0 rfl) ?_
  refine lv_iconst (v := 4) hx hb dJ13_bitCount_95d88_26 (by decide) ?_
  refine lv_lushr hx hb dJ13_bitCount_95d88_27 rfl ?_
  refine lv_ladd hx hb dJ13_bitCount_95d88_28 ?_
  refine lv_ldc2 (v := 1085102592571150095) hx hb hown (hts (.constantLong RJ13 318 (1085102592571150095)) (by decide +kernel)) dJ13_bitCount_95d88_29 ?_
  refine lv_land hx hb dJ13_bitCount_95d88_32 ?_
  obtain ⟨v3, ev3, hM⟩ := sx_nm_s hM
  refine W.eq (g2 := F0 m 33 ls (.long v3 :: [])) (by subst ev3; rfl) ?_
  refine lv_lstore_n (lv' := [(0, .long v3)]) hx hb dJ13_bitCount_95d88_33 rfl hl (by decide) rfl (fun ls hl => ?_)
  refine lv_lload_n hx hb dJ13_bitCount_95d88_34 rfl (lv_at hl 0 rfl) ?_
  refine lv_lload_n hx hb dJ13_bitCount_95d88_35 rfl (lv_at hl 0 rfl) ?_
  refine lv_bipush (v := 8) hx hb dJ13_bitCount_95d88_36 (by decide) ?_
  refine lv_lushr hx hb dJ13_bitCount_95d88_38 rfl ?_
  refine lv_ladd hx hb dJ13_bitCount_95d88_39 ?_
  obtain ⟨v4, ev4, hM⟩ := sx_nm_s hM
  refine W.eq (g2 := F0 m 40 ls (.long v4 :: [])) (by subst ev4; rfl) ?_
  refine lv_lstore_n (lv' := [(0, .long v4)]) hx hb dJ13_bitCount_95d88_40 rfl hl (by decide) rfl (fun ls hl => ?_)
  refine lv_lload_n hx hb dJ13_bitCount_95d88_41 rfl (lv_at hl 0 rfl) ?_
  refine lv_lload_n hx hb dJ13_bitCount_95d88_42 rfl (lv_at hl 0 rfl) ?_
  refine lv_bipush (v := 16) hx hb dJ13_bitCount_95d88_43 (by decide) ?_
  refine lv_lushr hx hb dJ13_bitCount_95d88_45 rfl ?_
  refine lv_ladd hx hb dJ13_bitCount_95d88_46 ?_
  obtain ⟨v5, ev5, hM⟩ := sx_nm_s hM
  refine W.eq (g2 := F0 m 47 ls (.long v5 :: [])) (by subst ev5; rfl) ?_
  refine lv_lstore_n (lv' := [(0, .long v5)]) hx hb dJ13_bitCount_95d88_47 rfl hl (by decide) rfl (fun ls hl => ?_)
  refine lv_lload_n hx hb dJ13_bitCount_95d88_48 rfl (lv_at hl 0 rfl) ?_
  refine lv_lload_n hx hb dJ13_bitCount_95d88_49 rfl (lv_at hl 0 rfl) ?_
  refine lv_bipush (v := 32) hx hb dJ13_bitCount_95d88_50 (by decide) ?_
  refine lv_lushr hx hb dJ13_bitCount_95d88_52 rfl ?_
  refine lv_ladd hx hb dJ13_bitCount_95d88_53 ?_
  obtain ⟨v6, ev6, hM⟩ := sx_nm_s hM
  refine W.eq (g2 := F0 m 54 ls (.long v6 :: [])) (by subst ev6; rfl) ?_
  refine lv_lstore_n (lv' := [(0, .long v6)]) hx hb dJ13_bitCount_95d88_54 rfl hl (by decide) rfl (fun ls hl => ?_)
  refine lv_lload_n hx hb dJ13_bitCount_95d88_55 rfl (lv_at hl 0 rfl) ?_
  refine lv_l2i hx hb dJ13_bitCount_95d88_56 rfl ?_
  refine lv_bipush (v := 127) hx hb dJ13_bitCount_95d88_57 (by decide) ?_
  refine lv_iand hx hb dJ13_bitCount_95d88_59 ?_
  obtain rfl := sx_o1 hM
  exact hret _ _ _ _ dJ13_bitCount_95d88_60 (hP.sub [] rfl) (hD.sub [] (by decide) rfl) hS
set_option maxHeartbeats 4000000 in
set_option maxRecDepth 100000 in
theorem mtJ13_bitCount_95d88 (l : Launch) (D : va_G) (cI cJ cS : ClassId) (sz : Nat) (a1 : Int64) (F : Nat) (r0 : Int32) (hM : fnJ13_bitCount_95d88 F a1 = some r0) : sx_MI l yJ13_bitCount_95d88 wsJ13_bitCount_95d88 ({ frames := 0, cells := 0, slots := 0, locals := 0 }) D (sx_T cI cJ cS) sz [.long a1] [] r0 [] := by
  refine Met.ofW (cc := cJ13_bitCount_95d88) (maxL := 2) (ret := (some .int)) (by decide) rfl ?_
  intro p e s m args below meth c s₁ B hml hv
  obtain ⟨rfl, hsz, hN, hP, hK, hD0⟩ := hv
  subst hsz
  have hl := lv_entry ([.long a1]) (n := 2) (Nat.le_of_ble_eq_true rfl)
  rw [lg_entry_eq]
  generalize (lg_sl ([.long a1]) ++ List.replicate (2 - (lg_sl ([.long a1])).length) Slot.unset).toArray = ls at hl ⊢
  exact kwJ13_bitCount_95d88 B.exec B.bytes hml (findClass_of_methodNamed B.named) (atoms_spec (ws := wsJ13_bitCount_95d88) B.pre) hN hK (fun q h => Or.inr h) (by decide) (by decide) ⟨Nat.zero_le _, Nat.zero_le _⟩ a1 F r0 hM _ _ _ hl hP hD0.self va_S.rf (fun H1 locs1 ls1 pc1 hd hP hD hS => W.iret (v := r0) B.exec B.bytes B.returns (fun t ht hW => ⟨⟨r0, (), rfl, rfl, by rw [ht]; exact hP, hD⟩, hS.F ht⟩) hS.2.2 hd)

def fnX0_rankOf (F : Nat) (c_seals : Nat → Int64) (a1 : Int32) : Option (Int32) :=
  sx_gd (sx_ib a1 6) (sx_c1 (fnX4_sealedIn F (c_seals (a1).toNatClampNeg)) (fun (r2 : Int64) => sx_c1 (fnJ13_bitCount_95d88 F r2) (fun (r4 : Int32) => (some (r4)))))
set_option maxHeartbeats 4000000 in
set_option maxRecDepth 100000 in
theorem kwX0_rankOf {p : Program} {l : Launch} {e : Env} {R : Room} {s : State} {m : MethodId} {args : Array Value} {below : List Frame} {meth : Method} {c : Code} {cells slots : Nat} {Q : State → Prop} {A : Nat → Prop} {H0 : Heap} {D : va_G} {cI cJ cS : ClassId} (hx : p.tables.exec = Jvm.exec) (hb : c.code = cX0_rankOf) (hml : c.maxLocals = 2) (hown : s.vm.findClass RX0 = some m.cls) (hts : ∀ w ∈ wsX0_rankOf, w.before args s = true) (hN : sx_N s) (hK : va_K D vwCl (sx_T cI cJ cS) s) (hA : ∀ q, H0.size ≤ q → A q) (hRf : 1 ≤ R.frames) (hRl : 21 ≤ R.locals) (hRc : cells ≤ R.cells ∧ slots ≤ R.slots) (c_h c_kinds_a c_seating_a c_knows_a c_seals_a c_telling_a : Nat) (c_seals : Nat → Int64) (c_persons : Int32) (c_wax : Int32) (c_week : Int32) (c_day : Int32) (c_draw : Int32) (a1 : Int32) (F : Nat) (r0 : Int32) (hM : fnX0_rankOf F c_seals a1 = some r0) (H : Heap) (locs : List Loc) (ls : Array Slot) (hl : lv_has ls 2 [(0, .ref c_h), (1, .int a1)]) (hP : va_P D vwCl [(c_h, .inr (0, [.ref c_kinds_a, .ref c_seating_a, .ref c_knows_a, .ref c_seals_a, .ref c_telling_a, .int c_persons, .int c_wax, .int c_week, .int c_day, .int c_draw])), (c_seals_a, .inl (cJ, 6, .inr (.inl c_seals)))] H) (hD : va_D A [(c_h, .inr (0, [.ref c_kinds_a, .ref c_seating_a, .ref c_knows_a, .ref c_seals_a, .ref c_telling_a, .int c_persons, .int c_wax, .int c_week, .int c_day, .int c_draw])), (c_seals_a, .inl (cJ, 6, .inr (.inl c_seals)))]) (hS : va_S A H0 H locs)
    (hret : ∀ (H1 : Heap) (locs1 : List Loc) (ls1 : Array Slot) (pc1 : Nat), decode cX0_rankOf pc1 = .ok (.ireturn, 1) → va_P D vwCl [(c_h, .inr (0, [.ref c_kinds_a, .ref c_seating_a, .ref c_knows_a, .ref c_seals_a, .ref c_telling_a, .int c_persons, .int c_wax, .int c_week, .int c_day, .int c_draw])), (c_seals_a, .inl (cJ, 6, .inr (.inl c_seals)))] H1 → va_D A [(c_h, .inr (0, [.ref c_kinds_a, .ref c_seating_a, .ref c_knows_a, .ref c_seals_a, .ref c_telling_a, .int c_persons, .int c_wax, .int c_week, .int c_day, .int c_draw])), (c_seals_a, .inl (cJ, 6, .inr (.inl c_seals)))] → va_S A H0 H1 locs1 → W p l e R s m args below meth c H1 locs1 cells slots Q (F0 m pc1 ls1 [.int r0])) : W p l e R s m args below meth c H locs cells slots Q (F0 m 0 ls []) := by
  have hf_22 := hts (.fieldLink RX0 22 "SealedLips$Court" "seals" "[J") (by decide +kernel)
  have hin_X0 : ∀ w ∈ wsX00, w ∈ wsX0_rankOf := by decide +kernel
  unfold fnX0_rankOf at hM
  refine lv_aload_n hx hb dX0_rankOf_0 rfl (lv_at hl 0 rfl) ?_
  refine va_get (D := D) (ci := 0) (v := .ref c_seals_a) (C := RX0) (T := TX0) (N := 10) hx hb hts hin_X0 hown hK hP 0 rfl rfl 3 (by decide) hf_22 (fun _ h9 => h9) rfl dX0_rankOf_1 ?_
  refine lv_iload_n hx hb dX0_rankOf_4 rfl (lv_at hl 1 rfl) ?_
  obtain ⟨g1, hM⟩ := sx_gd_s hM
  refine va_lald hx hb hK hP 1 1 rfl rfl (sx_ib_s g1) dX0_rankOf_5 ?_
  obtain ⟨r2, hc3, hM⟩ := sx_c1_s hM
  refine sx_lSN (As := [.long (c_seals (a1).toNatClampNeg)]) (rest := []) (wc := []) (wr := [(c_h, .inr (0, [.ref c_kinds_a, .ref c_seating_a, .ref c_knows_a, .ref c_seals_a, .ref c_telling_a, .int c_persons, .int c_wax, .int c_week, .int c_day, .int c_draw])), (c_seals_a, .inl (cJ, 6, .inr (.inl c_seals)))]) (w1 := []) ⟨hx, hb, hml, hown, hts⟩ (mtX4_sealedIn l D cI cJ cS H.size (c_seals (a1).toNatClampNeg) F r2 hc3) ⟨va_cnB (host := "SealedLips") 1 hts gX0_rankOf_X4_sealedIn_n65 rfl rfl rfl (hN (.methodLinkNest "SealedLips$Court" 65 ⟨"SealedLips", "sealedIn", "(J)J"⟩ "SealedLips") (by decide +kernel)) (hts (.initialized RX4) (by decide +kernel)) (by decide +kernel) ⟨Nat.le_trans (by decide) hRf, Nat.le_trans (by decide) hRl⟩, hts (.static yX4_sealedIn) (by decide +kernel), trivial⟩ hK hN hP hD hS hA [] [0, 1] rfl (by decide) rfl (by decide) (by decide) rfl hl.1 rfl (Nat.le_of_ble_eq_true rfl) dX0_rankOf_6 hRc (fun H locs hP hD hS => ?_)
  have hP : va_P D vwCl [(c_h, .inr (0, [.ref c_kinds_a, .ref c_seating_a, .ref c_knows_a, .ref c_seals_a, .ref c_telling_a, .int c_persons, .int c_wax, .int c_week, .int c_day, .int c_draw])), (c_seals_a, .inl (cJ, 6, .inr (.inl c_seals)))] H := hP
  have hD : va_D A [(c_h, .inr (0, [.ref c_kinds_a, .ref c_seating_a, .ref c_knows_a, .ref c_seals_a, .ref c_telling_a, .int c_persons, .int c_wax, .int c_week, .int c_day, .int c_draw])), (c_seals_a, .inl (cJ, 6, .inr (.inl c_seals)))] := hD
  obtain ⟨r4, hc5, hM⟩ := sx_c1_s hM
  refine sx_iS (As := [.long r2]) (rest := []) (wc := []) (wr := [(c_h, .inr (0, [.ref c_kinds_a, .ref c_seating_a, .ref c_knows_a, .ref c_seals_a, .ref c_telling_a, .int c_persons, .int c_wax, .int c_week, .int c_day, .int c_draw])), (c_seals_a, .inl (cJ, 6, .inr (.inl c_seals)))]) (w1 := []) ⟨hx, hb, hml, hown, hts⟩ (mtJ13_bitCount_95d88 l D cI cJ cS H.size r2 F r4 hc5) (va_cwS 1 hts gX0_rankOf_J13_bitCount_95d88 rfl rfl rfl (by decide +kernel) ⟨Nat.le_trans (by decide) hRf, Nat.le_trans (by decide) hRl⟩) hK hN hP hD hS hA [] [0, 1] rfl (by decide) rfl (by decide) (by decide) rfl hl.1 rfl (Nat.le_of_ble_eq_true rfl) dX0_rankOf_9 hRc (fun H locs hP hD hS => ?_)
  have hP : va_P D vwCl [(c_h, .inr (0, [.ref c_kinds_a, .ref c_seating_a, .ref c_knows_a, .ref c_seals_a, .ref c_telling_a, .int c_persons, .int c_wax, .int c_week, .int c_day, .int c_draw])), (c_seals_a, .inl (cJ, 6, .inr (.inl c_seals)))] H := hP
  have hD : va_D A [(c_h, .inr (0, [.ref c_kinds_a, .ref c_seating_a, .ref c_knows_a, .ref c_seals_a, .ref c_telling_a, .int c_persons, .int c_wax, .int c_week, .int c_day, .int c_draw])), (c_seals_a, .inl (cJ, 6, .inr (.inl c_seals)))] := hD
  obtain rfl := sx_o1 hM
  exact hret _ _ _ _ dX0_rankOf_12 (hP.sub [0, 1] rfl) (hD.sub [0, 1] (by decide) rfl) hS
set_option maxHeartbeats 4000000 in
set_option maxRecDepth 100000 in
theorem mtX0_rankOf (l : Launch) (D : va_G) (cI cJ cS : ClassId) (sz : Nat) (c_h c_kinds_a c_seating_a c_knows_a c_seals_a c_telling_a : Nat) (c_seals : Nat → Int64) (c_persons : Int32) (c_wax : Int32) (c_week : Int32) (c_day : Int32) (c_draw : Int32) (a1 : Int32) (F : Nat) (r0 : Int32) (hM : fnX0_rankOf F c_seals a1 = some r0) : sx_MI l yX0_rankOf wsX0_rankOf ({ frames := 1, cells := 0, slots := 0, locals := 21 }) D (sx_T cI cJ cS) sz [.ref c_h, .int a1] [(c_h, .inr (0, [.ref c_kinds_a, .ref c_seating_a, .ref c_knows_a, .ref c_seals_a, .ref c_telling_a, .int c_persons, .int c_wax, .int c_week, .int c_day, .int c_draw])), (c_seals_a, .inl (cJ, 6, .inr (.inl c_seals)))] r0 [(c_h, .inr (0, [.ref c_kinds_a, .ref c_seating_a, .ref c_knows_a, .ref c_seals_a, .ref c_telling_a, .int c_persons, .int c_wax, .int c_week, .int c_day, .int c_draw])), (c_seals_a, .inl (cJ, 6, .inr (.inl c_seals)))] := by
  refine Met.ofW (cc := cX0_rankOf) (maxL := 2) (ret := (some .int)) (by decide) rfl ?_
  intro p e s m args below meth c s₁ B hml hv
  obtain ⟨rfl, hsz, hN, hP, hK, hD0⟩ := hv
  subst hsz
  have hl := lv_entry ([.ref c_h, .int a1]) (n := 2) (Nat.le_of_ble_eq_true rfl)
  rw [lg_entry_eq]
  generalize (lg_sl ([.ref c_h, .int a1]) ++ List.replicate (2 - (lg_sl ([.ref c_h, .int a1])).length) Slot.unset).toArray = ls at hl ⊢
  exact kwX0_rankOf B.exec B.bytes hml (findClass_of_methodNamed B.named) (atoms_spec (ws := wsX0_rankOf) B.pre) hN hK (fun q h => Or.inr h) (by decide) (by decide) ⟨Nat.zero_le _, Nat.zero_le _⟩ c_h c_kinds_a c_seating_a c_knows_a c_seals_a c_telling_a c_seals c_persons c_wax c_week c_day c_draw a1 F r0 hM _ _ _ hl hP hD0.self va_S.rf (fun H1 locs1 ls1 pc1 hd hP hD hS => W.iret (v := r0) B.exec B.bytes B.returns (fun t ht hW => ⟨⟨r0, (), rfl, rfl, by rw [ht]; exact hP, hD⟩, hS.F ht⟩) hS.2.2 hd)

def bdX0_knowersOf_4 (F : Nat) (x1_ : Int32) (c_knows : Nat → Int64) (c_persons : Int32) (r_ : Int32 → Int32 → Option (Int32)) (x2_ : Int32) (x3_ : Int32) : Option (Int32) :=
  (if c_persons ≤ x3_ then (some (x2_)) else sx_gd (sx_ib x3_ 6) (sx_nm (x2_ ||| ((((((c_knows (x3_).toNatClampNeg)).toUInt64 >>> ((((8 : Int32) * x1_)).toInt64.toUInt64 &&& Int64.toUInt64 63)).toInt64 &&& (1 : Int64))).toInt32 <<< (x3_ &&& 31))) (fun (v5 : Int32) => sx_nm (x3_ + (1 : Int32)) (fun (v6 : Int32) => (r_ v5 v6)))))
def fnX0_knowersOf (F : Nat) (c_knows : Nat → Int64) (c_persons : Int32) (a1 : Int32) : Option (Int32) :=
  sx_lp2 (bdX0_knowersOf_4 F a1 c_knows c_persons) F (0 : Int32) (0 : Int32)
set_option maxHeartbeats 4000000 in
set_option maxRecDepth 100000 in
theorem kwX0_knowersOf {p : Program} {l : Launch} {e : Env} {R : Room} {s : State} {m : MethodId} {args : Array Value} {below : List Frame} {meth : Method} {c : Code} {cells slots : Nat} {Q : State → Prop} {A : Nat → Prop} {H0 : Heap} {D : va_G} {cI cJ cS : ClassId} (hx : p.tables.exec = Jvm.exec) (hb : c.code = cX0_knowersOf) (hml : c.maxLocals = 4) (hown : s.vm.findClass RX0 = some m.cls) (hts : ∀ w ∈ wsX0_knowersOf, w.before args s = true) (hN : sx_N s) (hK : va_K D vwCl (sx_T cI cJ cS) s) (hA : ∀ q, H0.size ≤ q → A q) (hRf : 0 ≤ R.frames) (hRl : 0 ≤ R.locals) (hRc : cells ≤ R.cells ∧ slots ≤ R.slots) (c_h c_kinds_a c_seating_a c_knows_a c_seals_a c_telling_a : Nat) (c_knows : Nat → Int64) (c_persons : Int32) (c_wax : Int32) (c_week : Int32) (c_day : Int32) (c_draw : Int32) (a1 : Int32) (F : Nat) (r0 : Int32) (hM : fnX0_knowersOf F c_knows c_persons a1 = some r0) (H : Heap) (locs : List Loc) (ls : Array Slot) (hl : lv_has ls 4 [(0, .ref c_h), (1, .int a1)]) (hP : va_P D vwCl [(c_h, .inr (0, [.ref c_kinds_a, .ref c_seating_a, .ref c_knows_a, .ref c_seals_a, .ref c_telling_a, .int c_persons, .int c_wax, .int c_week, .int c_day, .int c_draw])), (c_knows_a, .inl (cJ, 6, .inr (.inl c_knows)))] H) (hD : va_D A [(c_h, .inr (0, [.ref c_kinds_a, .ref c_seating_a, .ref c_knows_a, .ref c_seals_a, .ref c_telling_a, .int c_persons, .int c_wax, .int c_week, .int c_day, .int c_draw])), (c_knows_a, .inl (cJ, 6, .inr (.inl c_knows)))]) (hS : va_S A H0 H locs)
    (hret : ∀ (H1 : Heap) (locs1 : List Loc) (ls1 : Array Slot) (pc1 : Nat), decode cX0_knowersOf pc1 = .ok (.ireturn, 1) → va_P D vwCl [(c_h, .inr (0, [.ref c_kinds_a, .ref c_seating_a, .ref c_knows_a, .ref c_seals_a, .ref c_telling_a, .int c_persons, .int c_wax, .int c_week, .int c_day, .int c_draw])), (c_knows_a, .inl (cJ, 6, .inr (.inl c_knows)))] H1 → va_D A [(c_h, .inr (0, [.ref c_kinds_a, .ref c_seating_a, .ref c_knows_a, .ref c_seals_a, .ref c_telling_a, .int c_persons, .int c_wax, .int c_week, .int c_day, .int c_draw])), (c_knows_a, .inl (cJ, 6, .inr (.inl c_knows)))] → va_S A H0 H1 locs1 → W p l e R s m args below meth c H1 locs1 cells slots Q (F0 m pc1 ls1 [.int r0])) : W p l e R s m args below meth c H locs cells slots Q (F0 m 0 ls []) := by
  have hf_18 := hts (.fieldLink RX0 18 "SealedLips$Court" "knows" "[J") (by decide +kernel)
  have hf_44 := hts (.fieldLink RX0 44 "SealedLips$Court" "persons" "I") (by decide +kernel)
  have hin_X0 : ∀ w ∈ wsX00, w ∈ wsX0_knowersOf := by decide +kernel
  unfold fnX0_knowersOf at hM
  refine lv_iconst (v := 0) hx hb dX0_knowersOf_0 (by decide) ?_
  refine lv_istore_n (lv' := [(2, .int (0 : Int32)), (0, .ref c_h), (1, .int a1)]) hx hb dX0_knowersOf_1 rfl hl (by decide) rfl (fun ls hl => ?_)
  refine lv_iconst (v := 0) hx hb dX0_knowersOf_2 (by decide) ?_
  refine lv_istore_n (lv' := [(3, .int (0 : Int32)), (2, .int (0 : Int32)), (0, .ref c_h), (1, .int a1)]) hx hb dX0_knowersOf_3 rfl hl (by decide) rfl (fun ls hl => ?_)
  have lp_4 : ∀ (n : Nat) (x1 : Int32) (x2 : Int32) (H : Heap) (locs : List Loc) (ls : Array Slot), sx_lp2 (bdX0_knowersOf_4 F a1 c_knows c_persons) n x1 x2 = some r0 → lv_has ls 4 [(0, .ref c_h), (1, .int a1), (2, .int x1), (3, .int x2)] → va_P D vwCl [(c_h, .inr (0, [.ref c_kinds_a, .ref c_seating_a, .ref c_knows_a, .ref c_seals_a, .ref c_telling_a, .int c_persons, .int c_wax, .int c_week, .int c_day, .int c_draw])), (c_knows_a, .inl (cJ, 6, .inr (.inl c_knows)))] H → va_D A [(c_h, .inr (0, [.ref c_kinds_a, .ref c_seating_a, .ref c_knows_a, .ref c_seals_a, .ref c_telling_a, .int c_persons, .int c_wax, .int c_week, .int c_day, .int c_draw])), (c_knows_a, .inl (cJ, 6, .inr (.inl c_knows)))] → va_S A H0 H locs → W p l e R s m args below meth c H locs cells slots Q (F0 m 4 ls ([])) := by
    intro n
    induction n with
    | zero => intro x1 x2 H locs ls hM; exact (sx_lp2_0 hM).elim
    | succ n ih =>
      intro x1 x2 H locs ls hM hl hP hD hS
      have hM : bdX0_knowersOf_4 F a1 c_knows c_persons (sx_lp2 (bdX0_knowersOf_4 F a1 c_knows c_persons) n) x1 x2 = some r0 := hM
      generalize sx_lp2 (bdX0_knowersOf_4 F a1 c_knows c_persons) n = r_4 at hM ih
      unfold bdX0_knowersOf_4 at hM
      refine lv_iload_n hx hb dX0_knowersOf_4 rfl (lv_at hl 3 rfl) ?_
      refine lv_aload_n hx hb dX0_knowersOf_5 rfl (lv_at hl 0 rfl) ?_
      refine va_get (D := D) (ci := 0) (v := .int c_persons) (C := RX0) (T := TX0) (N := 10) hx hb hts hin_X0 hown hK hP 0 rfl rfl 5 (by decide) hf_44 (fun _ h9 => h9) rfl dX0_knowersOf_6 ?_
      refine lv_icmp_ge (tgt := 37) hx hb dX0_knowersOf_9 (by decide) (fun c3 => ?_) (fun c3 => ?_)
      · replace hM := sx_ift c3 hM
        refine lv_iload_n hx hb dX0_knowersOf_37 rfl (lv_at hl 2 rfl) ?_
        obtain rfl := sx_o1 hM
        exact hret _ _ _ _ dX0_knowersOf_38 (hP.sub [0, 1] rfl) (hD.sub [0, 1] (by decide) rfl) hS
      · replace hM := sx_iff c3 hM
        refine lv_iload_n hx hb dX0_knowersOf_12 rfl (lv_at hl 2 rfl) ?_
        refine lv_aload_n hx hb dX0_knowersOf_13 rfl (lv_at hl 0 rfl) ?_
        refine va_get (D := D) (ci := 0) (v := .ref c_knows_a) (C := RX0) (T := TX0) (N := 10) hx hb hts hin_X0 hown hK hP 0 rfl rfl 2 (by decide) hf_18 (fun _ h9 => h9) rfl dX0_knowersOf_14 ?_
        refine lv_iload_n hx hb dX0_knowersOf_17 rfl (lv_at hl 3 rfl) ?_
        obtain ⟨g4, hM⟩ := sx_gd_s hM
        refine va_lald hx hb hK hP 1 1 rfl rfl (sx_ib_s g4) dX0_knowersOf_18 ?_
        refine lv_bipush (v := 8) hx hb dX0_knowersOf_19 (by decide) ?_
        refine lv_iload_n hx hb dX0_knowersOf_21 rfl (lv_at hl 1 rfl) ?_
        refine lv_imul hx hb dX0_knowersOf_22 ?_
        refine lv_lushr hx hb dX0_knowersOf_23 rfl ?_
        refine lv_lconst (v := 1) hx hb dX0_knowersOf_24 (by decide) ?_
        refine lv_land hx hb dX0_knowersOf_25 ?_
        refine lv_l2i hx hb dX0_knowersOf_26 rfl ?_
        refine lv_iload_n hx hb dX0_knowersOf_27 rfl (lv_at hl 3 rfl) ?_
        refine lv_ishl hx hb dX0_knowersOf_28 ?_
        refine lv_ior hx hb dX0_knowersOf_29 ?_
        obtain ⟨v5, ev5, hM⟩ := sx_nm_s hM
        refine W.eq (g2 := F0 m 30 ls (.int v5 :: [])) (by subst ev5; rfl) ?_
        refine lv_istore_n (lv' := [(2, .int v5), (0, .ref c_h), (1, .int a1), (3, .int x2)]) hx hb dX0_knowersOf_30 rfl hl (by decide) rfl (fun ls hl => ?_)
        obtain ⟨v6, ev6, hM⟩ := sx_nm_s hM
        refine lv_iinc (v := v6) (lv' := [(3, .int v6), (2, .int v5), (0, .ref c_h), (1, .int a1)]) hx hb dX0_knowersOf_31 hl (k := 3) rfl (by rw [ev6]; rfl) (by decide) rfl (fun ls hl => ?_)
        refine lv_goto (tgt := 4) hx hb dX0_knowersOf_34 (by decide) ?_
        exact ih v5 v6 _ _ _ hM (lv_sub hl [2, 3, 1, 0] rfl) (hP.sub [0, 1] rfl) (hD.sub [0, 1] (by decide) rfl) hS
  exact lp_4 F (0 : Int32) (0 : Int32) _ _ _ hM (lv_sub hl [2, 3, 1, 0] rfl) (hP.sub [0, 1] rfl) (hD.sub [0, 1] (by decide) rfl) hS
set_option maxHeartbeats 4000000 in
set_option maxRecDepth 100000 in
theorem mtX0_knowersOf (l : Launch) (D : va_G) (cI cJ cS : ClassId) (sz : Nat) (c_h c_kinds_a c_seating_a c_knows_a c_seals_a c_telling_a : Nat) (c_knows : Nat → Int64) (c_persons : Int32) (c_wax : Int32) (c_week : Int32) (c_day : Int32) (c_draw : Int32) (a1 : Int32) (F : Nat) (r0 : Int32) (hM : fnX0_knowersOf F c_knows c_persons a1 = some r0) : sx_MI l yX0_knowersOf wsX0_knowersOf ({ frames := 0, cells := 0, slots := 0, locals := 0 }) D (sx_T cI cJ cS) sz [.ref c_h, .int a1] [(c_h, .inr (0, [.ref c_kinds_a, .ref c_seating_a, .ref c_knows_a, .ref c_seals_a, .ref c_telling_a, .int c_persons, .int c_wax, .int c_week, .int c_day, .int c_draw])), (c_knows_a, .inl (cJ, 6, .inr (.inl c_knows)))] r0 [(c_h, .inr (0, [.ref c_kinds_a, .ref c_seating_a, .ref c_knows_a, .ref c_seals_a, .ref c_telling_a, .int c_persons, .int c_wax, .int c_week, .int c_day, .int c_draw])), (c_knows_a, .inl (cJ, 6, .inr (.inl c_knows)))] := by
  refine Met.ofW (cc := cX0_knowersOf) (maxL := 4) (ret := (some .int)) (by decide) rfl ?_
  intro p e s m args below meth c s₁ B hml hv
  obtain ⟨rfl, hsz, hN, hP, hK, hD0⟩ := hv
  subst hsz
  have hl := lv_entry ([.ref c_h, .int a1]) (n := 4) (Nat.le_of_ble_eq_true rfl)
  rw [lg_entry_eq]
  generalize (lg_sl ([.ref c_h, .int a1]) ++ List.replicate (4 - (lg_sl ([.ref c_h, .int a1])).length) Slot.unset).toArray = ls at hl ⊢
  exact kwX0_knowersOf B.exec B.bytes hml (findClass_of_methodNamed B.named) (atoms_spec (ws := wsX0_knowersOf) B.pre) hN hK (fun q h => Or.inr h) (by decide) (by decide) ⟨Nat.zero_le _, Nat.zero_le _⟩ c_h c_kinds_a c_seating_a c_knows_a c_seals_a c_telling_a c_knows c_persons c_wax c_week c_day c_draw a1 F r0 hM _ _ _ hl hP hD0.self va_S.rf (fun H1 locs1 ls1 pc1 hd hP hD hS => W.iret (v := r0) B.exec B.bytes B.returns (fun t ht hW => ⟨⟨r0, (), rfl, rfl, by rw [ht]; exact hP, hD⟩, hS.F ht⟩) hS.2.2 hd)

def fnX0_isOut (F : Nat) (c_knows : Nat → Int64) (c_persons : Int32) (a1 : Int32) : Option (Int32) :=
  (if c_persons ≤ 0 then (some ((0 : Int32))) else sx_c1 (fnX0_knowersOf F c_knows c_persons a1) (fun (r2 : Int32) => (if r2 = (((1 : Int32) <<< (c_persons &&& 31)) - (1 : Int32)) then (some ((1 : Int32))) else (some ((0 : Int32))))))
set_option maxHeartbeats 4000000 in
set_option maxRecDepth 100000 in
theorem kwX0_isOut {p : Program} {l : Launch} {e : Env} {R : Room} {s : State} {m : MethodId} {args : Array Value} {below : List Frame} {meth : Method} {c : Code} {cells slots : Nat} {Q : State → Prop} {A : Nat → Prop} {H0 : Heap} {D : va_G} {cI cJ cS : ClassId} (hx : p.tables.exec = Jvm.exec) (hb : c.code = cX0_isOut) (hml : c.maxLocals = 2) (hown : s.vm.findClass RX0 = some m.cls) (hts : ∀ w ∈ wsX0_isOut, w.before args s = true) (hN : sx_N s) (hK : va_K D vwCl (sx_T cI cJ cS) s) (hA : ∀ q, H0.size ≤ q → A q) (hRf : 1 ≤ R.frames) (hRl : 23 ≤ R.locals) (hRc : cells ≤ R.cells ∧ slots ≤ R.slots) (c_h c_kinds_a c_seating_a c_knows_a c_seals_a c_telling_a : Nat) (c_knows : Nat → Int64) (c_persons : Int32) (c_wax : Int32) (c_week : Int32) (c_day : Int32) (c_draw : Int32) (a1 : Int32) (F : Nat) (r0 : Int32) (hM : fnX0_isOut F c_knows c_persons a1 = some r0) (H : Heap) (locs : List Loc) (ls : Array Slot) (hl : lv_has ls 2 [(0, .ref c_h), (1, .int a1)]) (hP : va_P D vwCl [(c_h, .inr (0, [.ref c_kinds_a, .ref c_seating_a, .ref c_knows_a, .ref c_seals_a, .ref c_telling_a, .int c_persons, .int c_wax, .int c_week, .int c_day, .int c_draw])), (c_knows_a, .inl (cJ, 6, .inr (.inl c_knows)))] H) (hD : va_D A [(c_h, .inr (0, [.ref c_kinds_a, .ref c_seating_a, .ref c_knows_a, .ref c_seals_a, .ref c_telling_a, .int c_persons, .int c_wax, .int c_week, .int c_day, .int c_draw])), (c_knows_a, .inl (cJ, 6, .inr (.inl c_knows)))]) (hS : va_S A H0 H locs)
    (hret : ∀ (H1 : Heap) (locs1 : List Loc) (ls1 : Array Slot) (pc1 : Nat), decode cX0_isOut pc1 = .ok (.ireturn, 1) → narrow .boolean (.int r0) = .int r0 → va_P D vwCl [(c_h, .inr (0, [.ref c_kinds_a, .ref c_seating_a, .ref c_knows_a, .ref c_seals_a, .ref c_telling_a, .int c_persons, .int c_wax, .int c_week, .int c_day, .int c_draw])), (c_knows_a, .inl (cJ, 6, .inr (.inl c_knows)))] H1 → va_D A [(c_h, .inr (0, [.ref c_kinds_a, .ref c_seating_a, .ref c_knows_a, .ref c_seals_a, .ref c_telling_a, .int c_persons, .int c_wax, .int c_week, .int c_day, .int c_draw])), (c_knows_a, .inl (cJ, 6, .inr (.inl c_knows)))] → va_S A H0 H1 locs1 → W p l e R s m args below meth c H1 locs1 cells slots Q (F0 m pc1 ls1 [.int r0])) : W p l e R s m args below meth c H locs cells slots Q (F0 m 0 ls []) := by
  have hf_44 := hts (.fieldLink RX0 44 "SealedLips$Court" "persons" "I") (by decide +kernel)
  have hin_X0 : ∀ w ∈ wsX00, w ∈ wsX0_isOut := by decide +kernel
  unfold fnX0_isOut at hM
  refine lv_aload_n hx hb dX0_isOut_0 rfl (lv_at hl 0 rfl) ?_
  refine va_get (D := D) (ci := 0) (v := .int c_persons) (C := RX0) (T := TX0) (N := 10) hx hb hts hin_X0 hown hK hP 0 rfl rfl 5 (by decide) hf_44 (fun _ h9 => h9) rfl dX0_isOut_1 ?_
  refine lv_if_le (tgt := 27) hx hb dX0_isOut_4 (by decide) (fun c1 => ?_) (fun c1 => ?_)
  · replace hM := sx_ift c1 hM
    refine lv_iconst (v := 0) hx hb dX0_isOut_27 (by decide) ?_
    obtain rfl := sx_o1 hM
    exact hret _ _ _ _ dX0_isOut_28 rfl (hP.sub [0, 1] rfl) (hD.sub [0, 1] (by decide) rfl) hS
  · replace hM := sx_iff c1 hM
    refine lv_aload_n hx hb dX0_isOut_7 rfl (lv_at hl 0 rfl) ?_
    refine lv_iload_n hx hb dX0_isOut_8 rfl (lv_at hl 1 rfl) ?_
    obtain ⟨r2, hc3, hM⟩ := sx_c1_s hM
    refine sx_iV (As := [.int a1]) (rest := []) (wc := [(c_h, .inr (0, [.ref c_kinds_a, .ref c_seating_a, .ref c_knows_a, .ref c_seals_a, .ref c_telling_a, .int c_persons, .int c_wax, .int c_week, .int c_day, .int c_draw])), (c_knows_a, .inl (cJ, 6, .inr (.inl c_knows)))]) (wr := []) (w1 := [(c_h, .inr (0, [.ref c_kinds_a, .ref c_seating_a, .ref c_knows_a, .ref c_seals_a, .ref c_telling_a, .int c_persons, .int c_wax, .int c_week, .int c_day, .int c_draw])), (c_knows_a, .inl (cJ, 6, .inr (.inl c_knows)))]) ⟨hx, hb, hml, hown, hts⟩ (mtX0_knowersOf l D cI cJ cS H.size c_h c_kinds_a c_seating_a c_knows_a c_seals_a c_telling_a c_knows c_persons c_wax c_week c_day c_draw a1 F r2 hc3) (cwV 1 hts gX0_isOut_X0_knowersOf rfl rfl rfl (by decide +kernel) ⟨Nat.le_trans (by decide) hRf, Nat.le_trans (by decide) hRl⟩) hK hN hP hD hS hA [0, 1] [] rfl (by decide) rfl (by decide) (by decide) rfl rfl rfl rfl hl.1 rfl (Nat.le_of_ble_eq_true rfl) dX0_isOut_9 hRc (fun H locs hP hD hS => ?_)
    have hP : va_P D vwCl [(c_h, .inr (0, [.ref c_kinds_a, .ref c_seating_a, .ref c_knows_a, .ref c_seals_a, .ref c_telling_a, .int c_persons, .int c_wax, .int c_week, .int c_day, .int c_draw])), (c_knows_a, .inl (cJ, 6, .inr (.inl c_knows)))] H := hP
    have hD : va_D A [(c_h, .inr (0, [.ref c_kinds_a, .ref c_seating_a, .ref c_knows_a, .ref c_seals_a, .ref c_telling_a, .int c_persons, .int c_wax, .int c_week, .int c_day, .int c_draw])), (c_knows_a, .inl (cJ, 6, .inr (.inl c_knows)))] := hD
    refine lv_iconst (v := 1) hx hb dX0_isOut_12 (by decide) ?_
    refine lv_aload_n hx hb dX0_isOut_13 rfl (lv_at hl 0 rfl) ?_
    refine va_get (D := D) (ci := 0) (v := .int c_persons) (C := RX0) (T := TX0) (N := 10) hx hb hts hin_X0 hown hK hP 0 rfl rfl 5 (by decide) hf_44 (fun _ h9 => h9) rfl dX0_isOut_14 ?_
    refine lv_ishl hx hb dX0_isOut_17 ?_
    refine lv_iconst (v := 1) hx hb dX0_isOut_18 (by decide) ?_
    refine lv_isub hx hb dX0_isOut_19 ?_
    refine lv_icmp_ne (tgt := 27) hx hb dX0_isOut_20 (by decide) (fun c4 => ?_) (fun c4 => ?_)
    · replace hM := sx_iff c4 hM
      refine lv_iconst (v := 0) hx hb dX0_isOut_27 (by decide) ?_
      obtain rfl := sx_o1 hM
      exact hret _ _ _ _ dX0_isOut_28 rfl (hP.sub [0, 1] rfl) (hD.sub [0, 1] (by decide) rfl) hS
    · replace hM := sx_ift c4 hM
      refine lv_iconst (v := 1) hx hb dX0_isOut_23 (by decide) ?_
      refine lv_goto (tgt := 28) hx hb dX0_isOut_24 (by decide) ?_
      obtain rfl := sx_o1 hM
      exact hret _ _ _ _ dX0_isOut_28 rfl (hP.sub [0, 1] rfl) (hD.sub [0, 1] (by decide) rfl) hS
set_option maxHeartbeats 4000000 in
set_option maxRecDepth 100000 in
theorem mtX0_isOut (l : Launch) (D : va_G) (cI cJ cS : ClassId) (sz : Nat) (c_h c_kinds_a c_seating_a c_knows_a c_seals_a c_telling_a : Nat) (c_knows : Nat → Int64) (c_persons : Int32) (c_wax : Int32) (c_week : Int32) (c_day : Int32) (c_draw : Int32) (a1 : Int32) (F : Nat) (r0 : Int32) (hM : fnX0_isOut F c_knows c_persons a1 = some r0) : sx_MI l yX0_isOut wsX0_isOut ({ frames := 1, cells := 0, slots := 0, locals := 23 }) D (sx_T cI cJ cS) sz [.ref c_h, .int a1] [(c_h, .inr (0, [.ref c_kinds_a, .ref c_seating_a, .ref c_knows_a, .ref c_seals_a, .ref c_telling_a, .int c_persons, .int c_wax, .int c_week, .int c_day, .int c_draw])), (c_knows_a, .inl (cJ, 6, .inr (.inl c_knows)))] r0 [(c_h, .inr (0, [.ref c_kinds_a, .ref c_seating_a, .ref c_knows_a, .ref c_seals_a, .ref c_telling_a, .int c_persons, .int c_wax, .int c_week, .int c_day, .int c_draw])), (c_knows_a, .inl (cJ, 6, .inr (.inl c_knows)))] := by
  refine Met.ofW (cc := cX0_isOut) (maxL := 2) (ret := (some .boolean)) (by decide) rfl ?_
  intro p e s m args below meth c s₁ B hml hv
  obtain ⟨rfl, hsz, hN, hP, hK, hD0⟩ := hv
  subst hsz
  have hl := lv_entry ([.ref c_h, .int a1]) (n := 2) (Nat.le_of_ble_eq_true rfl)
  rw [lg_entry_eq]
  generalize (lg_sl ([.ref c_h, .int a1]) ++ List.replicate (2 - (lg_sl ([.ref c_h, .int a1])).length) Slot.unset).toArray = ls at hl ⊢
  exact kwX0_isOut B.exec B.bytes hml (findClass_of_methodNamed B.named) (atoms_spec (ws := wsX0_isOut) B.pre) hN hK (fun q h => Or.inr h) (by decide) (by decide) ⟨Nat.zero_le _, Nat.zero_le _⟩ c_h c_kinds_a c_seating_a c_knows_a c_seals_a c_telling_a c_knows c_persons c_wax c_week c_day c_draw a1 F r0 hM _ _ _ hl hP hD0.self va_S.rf (fun H1 locs1 ls1 pc1 hd hz hP hD hS => W.zret (v := r0) B.exec B.bytes B.returns hz (fun t ht hW => ⟨⟨r0, (), rfl, rfl, by rw [ht]; exact hP, hD⟩, hS.F ht⟩) hS.2.2 hd)

def bdX0_thingsOut_4 (F : Nat) (c_knows : Nat → Int64) (c_persons : Int32) (r_ : Int32 → Int32 → Option (Int32)) (x1_ : Int32) (x2_ : Int32) : Option (Int32) :=
  (if (8 : Int32) ≤ x2_ then (some (x1_)) else sx_c1 (fnX0_isOut F c_knows c_persons x2_) (fun (r4 : Int32) => sx_lt (fun (y6 : Int32) => sx_nm (x1_ ||| y6) (fun (v7 : Int32) => sx_nm (x2_ + (1 : Int32)) (fun (v8 : Int32) => (r_ v7 v8)))) (fun (k_26 : Int32 → Option (Int32)) => (if r4 = 0 then (k_26 (0 : Int32)) else (k_26 ((1 : Int32) <<< (x2_ &&& 31)))))))
def fnX0_thingsOut (F : Nat) (c_knows : Nat → Int64) (c_persons : Int32) : Option (Int32) :=
  sx_lp2 (bdX0_thingsOut_4 F c_knows c_persons) F (0 : Int32) (0 : Int32)
set_option maxHeartbeats 4000000 in
set_option maxRecDepth 100000 in
theorem kwX0_thingsOut {p : Program} {l : Launch} {e : Env} {R : Room} {s : State} {m : MethodId} {args : Array Value} {below : List Frame} {meth : Method} {c : Code} {cells slots : Nat} {Q : State → Prop} {A : Nat → Prop} {H0 : Heap} {D : va_G} {cI cJ cS : ClassId} (hx : p.tables.exec = Jvm.exec) (hb : c.code = cX0_thingsOut) (hml : c.maxLocals = 3) (hown : s.vm.findClass RX0 = some m.cls) (hts : ∀ w ∈ wsX0_thingsOut, w.before args s = true) (hN : sx_N s) (hK : va_K D vwCl (sx_T cI cJ cS) s) (hA : ∀ q, H0.size ≤ q → A q) (hRf : 2 ≤ R.frames) (hRl : 44 ≤ R.locals) (hRc : cells ≤ R.cells ∧ slots ≤ R.slots) (c_h c_kinds_a c_seating_a c_knows_a c_seals_a c_telling_a : Nat) (c_knows : Nat → Int64) (c_persons : Int32) (c_wax : Int32) (c_week : Int32) (c_day : Int32) (c_draw : Int32) (F : Nat) (r0 : Int32) (hM : fnX0_thingsOut F c_knows c_persons = some r0) (H : Heap) (locs : List Loc) (ls : Array Slot) (hl : lv_has ls 3 [(0, .ref c_h)]) (hP : va_P D vwCl [(c_h, .inr (0, [.ref c_kinds_a, .ref c_seating_a, .ref c_knows_a, .ref c_seals_a, .ref c_telling_a, .int c_persons, .int c_wax, .int c_week, .int c_day, .int c_draw])), (c_knows_a, .inl (cJ, 6, .inr (.inl c_knows)))] H) (hD : va_D A [(c_h, .inr (0, [.ref c_kinds_a, .ref c_seating_a, .ref c_knows_a, .ref c_seals_a, .ref c_telling_a, .int c_persons, .int c_wax, .int c_week, .int c_day, .int c_draw])), (c_knows_a, .inl (cJ, 6, .inr (.inl c_knows)))]) (hS : va_S A H0 H locs)
    (hret : ∀ (H1 : Heap) (locs1 : List Loc) (ls1 : Array Slot) (pc1 : Nat), decode cX0_thingsOut pc1 = .ok (.ireturn, 1) → va_P D vwCl [(c_h, .inr (0, [.ref c_kinds_a, .ref c_seating_a, .ref c_knows_a, .ref c_seals_a, .ref c_telling_a, .int c_persons, .int c_wax, .int c_week, .int c_day, .int c_draw])), (c_knows_a, .inl (cJ, 6, .inr (.inl c_knows)))] H1 → va_D A [(c_h, .inr (0, [.ref c_kinds_a, .ref c_seating_a, .ref c_knows_a, .ref c_seals_a, .ref c_telling_a, .int c_persons, .int c_wax, .int c_week, .int c_day, .int c_draw])), (c_knows_a, .inl (cJ, 6, .inr (.inl c_knows)))] → va_S A H0 H1 locs1 → W p l e R s m args below meth c H1 locs1 cells slots Q (F0 m pc1 ls1 [.int r0])) : W p l e R s m args below meth c H locs cells slots Q (F0 m 0 ls []) := by
  unfold fnX0_thingsOut at hM
  refine lv_iconst (v := 0) hx hb dX0_thingsOut_0 (by decide) ?_
  refine lv_istore_n (lv' := [(1, .int (0 : Int32)), (0, .ref c_h)]) hx hb dX0_thingsOut_1 rfl hl (by decide) rfl (fun ls hl => ?_)
  refine lv_iconst (v := 0) hx hb dX0_thingsOut_2 (by decide) ?_
  refine lv_istore_n (lv' := [(2, .int (0 : Int32)), (1, .int (0 : Int32)), (0, .ref c_h)]) hx hb dX0_thingsOut_3 rfl hl (by decide) rfl (fun ls hl => ?_)
  have lp_4 : ∀ (n : Nat) (x1 : Int32) (x2 : Int32) (H : Heap) (locs : List Loc) (ls : Array Slot), sx_lp2 (bdX0_thingsOut_4 F c_knows c_persons) n x1 x2 = some r0 → lv_has ls 3 [(0, .ref c_h), (1, .int x1), (2, .int x2)] → va_P D vwCl [(c_h, .inr (0, [.ref c_kinds_a, .ref c_seating_a, .ref c_knows_a, .ref c_seals_a, .ref c_telling_a, .int c_persons, .int c_wax, .int c_week, .int c_day, .int c_draw])), (c_knows_a, .inl (cJ, 6, .inr (.inl c_knows)))] H → va_D A [(c_h, .inr (0, [.ref c_kinds_a, .ref c_seating_a, .ref c_knows_a, .ref c_seals_a, .ref c_telling_a, .int c_persons, .int c_wax, .int c_week, .int c_day, .int c_draw])), (c_knows_a, .inl (cJ, 6, .inr (.inl c_knows)))] → va_S A H0 H locs → W p l e R s m args below meth c H locs cells slots Q (F0 m 4 ls ([])) := by
    intro n
    induction n with
    | zero => intro x1 x2 H locs ls hM; exact (sx_lp2_0 hM).elim
    | succ n ih =>
      intro x1 x2 H locs ls hM hl hP hD hS
      have hM : bdX0_thingsOut_4 F c_knows c_persons (sx_lp2 (bdX0_thingsOut_4 F c_knows c_persons) n) x1 x2 = some r0 := hM
      generalize sx_lp2 (bdX0_thingsOut_4 F c_knows c_persons) n = r_4 at hM ih
      unfold bdX0_thingsOut_4 at hM
      refine lv_iload_n hx hb dX0_thingsOut_4 rfl (lv_at hl 2 rfl) ?_
      refine lv_bipush (v := 8) hx hb dX0_thingsOut_5 (by decide) ?_
      refine lv_icmp_ge (tgt := 34) hx hb dX0_thingsOut_7 (by decide) (fun c3 => ?_) (fun c3 => ?_)
      · replace hM := sx_ift c3 hM
        refine lv_iload_n hx hb dX0_thingsOut_34 rfl (lv_at hl 1 rfl) ?_
        obtain rfl := sx_o1 hM
        exact hret _ _ _ _ dX0_thingsOut_35 (hP.sub [0, 1] rfl) (hD.sub [0, 1] (by decide) rfl) hS
      · replace hM := sx_iff c3 hM
        refine lv_iload_n hx hb dX0_thingsOut_10 rfl (lv_at hl 1 rfl) ?_
        refine lv_aload_n hx hb dX0_thingsOut_11 rfl (lv_at hl 0 rfl) ?_
        refine lv_iload_n hx hb dX0_thingsOut_12 rfl (lv_at hl 2 rfl) ?_
        obtain ⟨r4, hc5, hM⟩ := sx_c1_s hM
        refine sx_iV (As := [.int x2]) (rest := [.int x1]) (wc := [(c_h, .inr (0, [.ref c_kinds_a, .ref c_seating_a, .ref c_knows_a, .ref c_seals_a, .ref c_telling_a, .int c_persons, .int c_wax, .int c_week, .int c_day, .int c_draw])), (c_knows_a, .inl (cJ, 6, .inr (.inl c_knows)))]) (wr := []) (w1 := [(c_h, .inr (0, [.ref c_kinds_a, .ref c_seating_a, .ref c_knows_a, .ref c_seals_a, .ref c_telling_a, .int c_persons, .int c_wax, .int c_week, .int c_day, .int c_draw])), (c_knows_a, .inl (cJ, 6, .inr (.inl c_knows)))]) ⟨hx, hb, hml, hown, hts⟩ (mtX0_isOut l D cI cJ cS H.size c_h c_kinds_a c_seating_a c_knows_a c_seals_a c_telling_a c_knows c_persons c_wax c_week c_day c_draw x2 F r4 hc5) (cwV 1 hts gX0_thingsOut_X0_isOut rfl rfl rfl (by decide +kernel) ⟨Nat.le_trans (by decide) hRf, Nat.le_trans (by decide) hRl⟩) hK hN hP hD hS hA [0, 1] [] rfl (by decide) rfl (by decide) (by decide) rfl rfl rfl rfl hl.1 rfl (Nat.le_of_ble_eq_true rfl) dX0_thingsOut_13 hRc (fun H locs hP hD hS => ?_)
        have hP : va_P D vwCl [(c_h, .inr (0, [.ref c_kinds_a, .ref c_seating_a, .ref c_knows_a, .ref c_seals_a, .ref c_telling_a, .int c_persons, .int c_wax, .int c_week, .int c_day, .int c_draw])), (c_knows_a, .inl (cJ, 6, .inr (.inl c_knows)))] H := hP
        have hD : va_D A [(c_h, .inr (0, [.ref c_kinds_a, .ref c_seating_a, .ref c_knows_a, .ref c_seals_a, .ref c_telling_a, .int c_persons, .int c_wax, .int c_week, .int c_day, .int c_draw])), (c_knows_a, .inl (cJ, 6, .inr (.inl c_knows)))] := hD
        obtain ⟨k_26, ek_26, hM⟩ := sx_lt_s hM
        have hk_26 : ∀ (y6 : Int32) (H : Heap) (locs : List Loc) (ls : Array Slot), k_26 y6 = some r0 → lv_has ls 3 [(0, .ref c_h), (2, .int x2)] → va_P D vwCl [(c_h, .inr (0, [.ref c_kinds_a, .ref c_seating_a, .ref c_knows_a, .ref c_seals_a, .ref c_telling_a, .int c_persons, .int c_wax, .int c_week, .int c_day, .int c_draw])), (c_knows_a, .inl (cJ, 6, .inr (.inl c_knows)))] H → va_D A [(c_h, .inr (0, [.ref c_kinds_a, .ref c_seating_a, .ref c_knows_a, .ref c_seals_a, .ref c_telling_a, .int c_persons, .int c_wax, .int c_week, .int c_day, .int c_draw])), (c_knows_a, .inl (cJ, 6, .inr (.inl c_knows)))] → va_S A H0 H locs → W p l e R s m args below meth c H locs cells slots Q (F0 m 26 ls (.int y6 :: .int x1 :: [])) := by
          intro y6 H locs ls hM hl hP hD hS
          rw [ek_26] at hM
          refine lv_ior hx hb dX0_thingsOut_26 ?_
          obtain ⟨v7, ev7, hM⟩ := sx_nm_s hM
          refine W.eq (g2 := F0 m 27 ls (.int v7 :: [])) (by subst ev7; rfl) ?_
          refine lv_istore_n (lv' := [(1, .int v7), (0, .ref c_h), (2, .int x2)]) hx hb dX0_thingsOut_27 rfl hl (by decide) rfl (fun ls hl => ?_)
          obtain ⟨v8, ev8, hM⟩ := sx_nm_s hM
          refine lv_iinc (v := v8) (lv' := [(2, .int v8), (1, .int v7), (0, .ref c_h)]) hx hb dX0_thingsOut_28 hl (k := 2) rfl (by rw [ev8]; rfl) (by decide) rfl (fun ls hl => ?_)
          refine lv_goto (tgt := 4) hx hb dX0_thingsOut_31 (by decide) ?_
          exact ih v7 v8 _ _ _ hM (lv_sub hl [2, 1, 0] rfl) (hP.sub [0, 1] rfl) (hD.sub [0, 1] (by decide) rfl) hS
        refine lv_if_eq (tgt := 25) hx hb dX0_thingsOut_16 (by decide) (fun c9 => ?_) (fun c9 => ?_)
        · replace hM := sx_ift c9 hM
          refine lv_iconst (v := 0) hx hb dX0_thingsOut_25 (by decide) ?_
          exact hk_26 (0 : Int32) _ _ _ hM (lv_sub hl [0, 2] rfl) (hP.sub [0, 1] rfl) (hD.sub [0, 1] (by decide) rfl) hS
        · replace hM := sx_iff c9 hM
          refine lv_iconst (v := 1) hx hb dX0_thingsOut_19 (by decide) ?_
          refine lv_iload_n hx hb dX0_thingsOut_20 rfl (lv_at hl 2 rfl) ?_
          refine lv_ishl hx hb dX0_thingsOut_21 ?_
          refine lv_goto (tgt := 26) hx hb dX0_thingsOut_22 (by decide) ?_
          exact hk_26 ((1 : Int32) <<< (x2 &&& 31)) _ _ _ hM (lv_sub hl [0, 2] rfl) (hP.sub [0, 1] rfl) (hD.sub [0, 1] (by decide) rfl) hS
  exact lp_4 F (0 : Int32) (0 : Int32) _ _ _ hM (lv_sub hl [2, 1, 0] rfl) (hP.sub [0, 1] rfl) (hD.sub [0, 1] (by decide) rfl) hS
set_option maxHeartbeats 4000000 in
set_option maxRecDepth 100000 in
theorem mtX0_thingsOut (l : Launch) (D : va_G) (cI cJ cS : ClassId) (sz : Nat) (c_h c_kinds_a c_seating_a c_knows_a c_seals_a c_telling_a : Nat) (c_knows : Nat → Int64) (c_persons : Int32) (c_wax : Int32) (c_week : Int32) (c_day : Int32) (c_draw : Int32) (F : Nat) (r0 : Int32) (hM : fnX0_thingsOut F c_knows c_persons = some r0) : sx_MI l yX0_thingsOut wsX0_thingsOut ({ frames := 2, cells := 0, slots := 0, locals := 44 }) D (sx_T cI cJ cS) sz [.ref c_h] [(c_h, .inr (0, [.ref c_kinds_a, .ref c_seating_a, .ref c_knows_a, .ref c_seals_a, .ref c_telling_a, .int c_persons, .int c_wax, .int c_week, .int c_day, .int c_draw])), (c_knows_a, .inl (cJ, 6, .inr (.inl c_knows)))] r0 [(c_h, .inr (0, [.ref c_kinds_a, .ref c_seating_a, .ref c_knows_a, .ref c_seals_a, .ref c_telling_a, .int c_persons, .int c_wax, .int c_week, .int c_day, .int c_draw])), (c_knows_a, .inl (cJ, 6, .inr (.inl c_knows)))] := by
  refine Met.ofW (cc := cX0_thingsOut) (maxL := 3) (ret := (some .int)) (by decide) rfl ?_
  intro p e s m args below meth c s₁ B hml hv
  obtain ⟨rfl, hsz, hN, hP, hK, hD0⟩ := hv
  subst hsz
  have hl := lv_entry ([.ref c_h]) (n := 3) (Nat.le_of_ble_eq_true rfl)
  rw [lg_entry_eq]
  generalize (lg_sl ([.ref c_h]) ++ List.replicate (3 - (lg_sl ([.ref c_h])).length) Slot.unset).toArray = ls at hl ⊢
  exact kwX0_thingsOut B.exec B.bytes hml (findClass_of_methodNamed B.named) (atoms_spec (ws := wsX0_thingsOut) B.pre) hN hK (fun q h => Or.inr h) (by decide) (by decide) ⟨Nat.zero_le _, Nat.zero_le _⟩ c_h c_kinds_a c_seating_a c_knows_a c_seals_a c_telling_a c_knows c_persons c_wax c_week c_day c_draw F r0 hM _ _ _ hl hP hD0.self va_S.rf (fun H1 locs1 ls1 pc1 hd hP hD hS => W.iret (v := r0) B.exec B.bytes B.returns (fun t ht hW => ⟨⟨r0, (), rfl, rfl, by rw [ht]; exact hP, hD⟩, hS.F ht⟩) hS.2.2 hd)

def bdX0_timesKnown_4 (F : Nat) (c_knows : Nat → Int64) (c_persons : Int32) (r_ : Int32 → Int32 → Option (Int32)) (x1_ : Int32) (x2_ : Int32) : Option (Int32) :=
  (if c_persons ≤ x2_ then (some (x1_)) else sx_gd (sx_ib x2_ 6) (sx_c1 (fnJ13_bitCount_95d88 F (c_knows (x2_).toNatClampNeg)) (fun (r5 : Int32) => sx_nm (x1_ + r5) (fun (v7 : Int32) => sx_nm (x2_ + (1 : Int32)) (fun (v8 : Int32) => (r_ v7 v8))))))
def fnX0_timesKnown (F : Nat) (c_knows : Nat → Int64) (c_persons : Int32) : Option (Int32) :=
  sx_lp2 (bdX0_timesKnown_4 F c_knows c_persons) F (0 : Int32) (0 : Int32)
set_option maxHeartbeats 4000000 in
set_option maxRecDepth 100000 in
theorem kwX0_timesKnown {p : Program} {l : Launch} {e : Env} {R : Room} {s : State} {m : MethodId} {args : Array Value} {below : List Frame} {meth : Method} {c : Code} {cells slots : Nat} {Q : State → Prop} {A : Nat → Prop} {H0 : Heap} {D : va_G} {cI cJ cS : ClassId} (hx : p.tables.exec = Jvm.exec) (hb : c.code = cX0_timesKnown) (hml : c.maxLocals = 3) (hown : s.vm.findClass RX0 = some m.cls) (hts : ∀ w ∈ wsX0_timesKnown, w.before args s = true) (hN : sx_N s) (hK : va_K D vwCl (sx_T cI cJ cS) s) (hA : ∀ q, H0.size ≤ q → A q) (hRf : 1 ≤ R.frames) (hRl : 21 ≤ R.locals) (hRc : cells ≤ R.cells ∧ slots ≤ R.slots) (c_h c_kinds_a c_seating_a c_knows_a c_seals_a c_telling_a : Nat) (c_knows : Nat → Int64) (c_persons : Int32) (c_wax : Int32) (c_week : Int32) (c_day : Int32) (c_draw : Int32) (F : Nat) (r0 : Int32) (hM : fnX0_timesKnown F c_knows c_persons = some r0) (H : Heap) (locs : List Loc) (ls : Array Slot) (hl : lv_has ls 3 [(0, .ref c_h)]) (hP : va_P D vwCl [(c_h, .inr (0, [.ref c_kinds_a, .ref c_seating_a, .ref c_knows_a, .ref c_seals_a, .ref c_telling_a, .int c_persons, .int c_wax, .int c_week, .int c_day, .int c_draw])), (c_knows_a, .inl (cJ, 6, .inr (.inl c_knows)))] H) (hD : va_D A [(c_h, .inr (0, [.ref c_kinds_a, .ref c_seating_a, .ref c_knows_a, .ref c_seals_a, .ref c_telling_a, .int c_persons, .int c_wax, .int c_week, .int c_day, .int c_draw])), (c_knows_a, .inl (cJ, 6, .inr (.inl c_knows)))]) (hS : va_S A H0 H locs)
    (hret : ∀ (H1 : Heap) (locs1 : List Loc) (ls1 : Array Slot) (pc1 : Nat), decode cX0_timesKnown pc1 = .ok (.ireturn, 1) → va_P D vwCl [(c_h, .inr (0, [.ref c_kinds_a, .ref c_seating_a, .ref c_knows_a, .ref c_seals_a, .ref c_telling_a, .int c_persons, .int c_wax, .int c_week, .int c_day, .int c_draw])), (c_knows_a, .inl (cJ, 6, .inr (.inl c_knows)))] H1 → va_D A [(c_h, .inr (0, [.ref c_kinds_a, .ref c_seating_a, .ref c_knows_a, .ref c_seals_a, .ref c_telling_a, .int c_persons, .int c_wax, .int c_week, .int c_day, .int c_draw])), (c_knows_a, .inl (cJ, 6, .inr (.inl c_knows)))] → va_S A H0 H1 locs1 → W p l e R s m args below meth c H1 locs1 cells slots Q (F0 m pc1 ls1 [.int r0])) : W p l e R s m args below meth c H locs cells slots Q (F0 m 0 ls []) := by
  have hf_18 := hts (.fieldLink RX0 18 "SealedLips$Court" "knows" "[J") (by decide +kernel)
  have hf_44 := hts (.fieldLink RX0 44 "SealedLips$Court" "persons" "I") (by decide +kernel)
  have hin_X0 : ∀ w ∈ wsX00, w ∈ wsX0_timesKnown := by decide +kernel
  unfold fnX0_timesKnown at hM
  refine lv_iconst (v := 0) hx hb dX0_timesKnown_0 (by decide) ?_
  refine lv_istore_n (lv' := [(1, .int (0 : Int32)), (0, .ref c_h)]) hx hb dX0_timesKnown_1 rfl hl (by decide) rfl (fun ls hl => ?_)
  refine lv_iconst (v := 0) hx hb dX0_timesKnown_2 (by decide) ?_
  refine lv_istore_n (lv' := [(2, .int (0 : Int32)), (1, .int (0 : Int32)), (0, .ref c_h)]) hx hb dX0_timesKnown_3 rfl hl (by decide) rfl (fun ls hl => ?_)
  have lp_4 : ∀ (n : Nat) (x1 : Int32) (x2 : Int32) (H : Heap) (locs : List Loc) (ls : Array Slot), sx_lp2 (bdX0_timesKnown_4 F c_knows c_persons) n x1 x2 = some r0 → lv_has ls 3 [(0, .ref c_h), (1, .int x1), (2, .int x2)] → va_P D vwCl [(c_h, .inr (0, [.ref c_kinds_a, .ref c_seating_a, .ref c_knows_a, .ref c_seals_a, .ref c_telling_a, .int c_persons, .int c_wax, .int c_week, .int c_day, .int c_draw])), (c_knows_a, .inl (cJ, 6, .inr (.inl c_knows)))] H → va_D A [(c_h, .inr (0, [.ref c_kinds_a, .ref c_seating_a, .ref c_knows_a, .ref c_seals_a, .ref c_telling_a, .int c_persons, .int c_wax, .int c_week, .int c_day, .int c_draw])), (c_knows_a, .inl (cJ, 6, .inr (.inl c_knows)))] → va_S A H0 H locs → W p l e R s m args below meth c H locs cells slots Q (F0 m 4 ls ([])) := by
    intro n
    induction n with
    | zero => intro x1 x2 H locs ls hM; exact (sx_lp2_0 hM).elim
    | succ n ih =>
      intro x1 x2 H locs ls hM hl hP hD hS
      have hM : bdX0_timesKnown_4 F c_knows c_persons (sx_lp2 (bdX0_timesKnown_4 F c_knows c_persons) n) x1 x2 = some r0 := hM
      generalize sx_lp2 (bdX0_timesKnown_4 F c_knows c_persons) n = r_4 at hM ih
      unfold bdX0_timesKnown_4 at hM
      refine lv_iload_n hx hb dX0_timesKnown_4 rfl (lv_at hl 2 rfl) ?_
      refine lv_aload_n hx hb dX0_timesKnown_5 rfl (lv_at hl 0 rfl) ?_
      refine va_get (D := D) (ci := 0) (v := .int c_persons) (C := RX0) (T := TX0) (N := 10) hx hb hts hin_X0 hown hK hP 0 rfl rfl 5 (by decide) hf_44 (fun _ h9 => h9) rfl dX0_timesKnown_6 ?_
      refine lv_icmp_ge (tgt := 30) hx hb dX0_timesKnown_9 (by decide) (fun c3 => ?_) (fun c3 => ?_)
      · replace hM := sx_ift c3 hM
        refine lv_iload_n hx hb dX0_timesKnown_30 rfl (lv_at hl 1 rfl) ?_
        obtain rfl := sx_o1 hM
        exact hret _ _ _ _ dX0_timesKnown_31 (hP.sub [0, 1] rfl) (hD.sub [0, 1] (by decide) rfl) hS
      · replace hM := sx_iff c3 hM
        refine lv_iload_n hx hb dX0_timesKnown_12 rfl (lv_at hl 1 rfl) ?_
        refine lv_aload_n hx hb dX0_timesKnown_13 rfl (lv_at hl 0 rfl) ?_
        refine va_get (D := D) (ci := 0) (v := .ref c_knows_a) (C := RX0) (T := TX0) (N := 10) hx hb hts hin_X0 hown hK hP 0 rfl rfl 2 (by decide) hf_18 (fun _ h9 => h9) rfl dX0_timesKnown_14 ?_
        refine lv_iload_n hx hb dX0_timesKnown_17 rfl (lv_at hl 2 rfl) ?_
        obtain ⟨g4, hM⟩ := sx_gd_s hM
        refine va_lald hx hb hK hP 1 1 rfl rfl (sx_ib_s g4) dX0_timesKnown_18 ?_
        obtain ⟨r5, hc6, hM⟩ := sx_c1_s hM
        refine sx_iS (As := [.long (c_knows (x2).toNatClampNeg)]) (rest := [.int x1]) (wc := []) (wr := [(c_h, .inr (0, [.ref c_kinds_a, .ref c_seating_a, .ref c_knows_a, .ref c_seals_a, .ref c_telling_a, .int c_persons, .int c_wax, .int c_week, .int c_day, .int c_draw])), (c_knows_a, .inl (cJ, 6, .inr (.inl c_knows)))]) (w1 := []) ⟨hx, hb, hml, hown, hts⟩ (mtJ13_bitCount_95d88 l D cI cJ cS H.size (c_knows (x2).toNatClampNeg) F r5 hc6) (va_cwS 1 hts gX0_timesKnown_J13_bitCount_95d88 rfl rfl rfl (by decide +kernel) ⟨Nat.le_trans (by decide) hRf, Nat.le_trans (by decide) hRl⟩) hK hN hP hD hS hA [] [0, 1] rfl (by decide) rfl (by decide) (by decide) rfl hl.1 rfl (Nat.le_of_ble_eq_true rfl) dX0_timesKnown_19 hRc (fun H locs hP hD hS => ?_)
        have hP : va_P D vwCl [(c_h, .inr (0, [.ref c_kinds_a, .ref c_seating_a, .ref c_knows_a, .ref c_seals_a, .ref c_telling_a, .int c_persons, .int c_wax, .int c_week, .int c_day, .int c_draw])), (c_knows_a, .inl (cJ, 6, .inr (.inl c_knows)))] H := hP
        have hD : va_D A [(c_h, .inr (0, [.ref c_kinds_a, .ref c_seating_a, .ref c_knows_a, .ref c_seals_a, .ref c_telling_a, .int c_persons, .int c_wax, .int c_week, .int c_day, .int c_draw])), (c_knows_a, .inl (cJ, 6, .inr (.inl c_knows)))] := hD
        refine lv_iadd hx hb dX0_timesKnown_22 ?_
        obtain ⟨v7, ev7, hM⟩ := sx_nm_s hM
        refine W.eq (g2 := F0 m 23 ls (.int v7 :: [])) (by subst ev7; rfl) ?_
        refine lv_istore_n (lv' := [(1, .int v7), (0, .ref c_h), (2, .int x2)]) hx hb dX0_timesKnown_23 rfl hl (by decide) rfl (fun ls hl => ?_)
        obtain ⟨v8, ev8, hM⟩ := sx_nm_s hM
        refine lv_iinc (v := v8) (lv' := [(2, .int v8), (1, .int v7), (0, .ref c_h)]) hx hb dX0_timesKnown_24 hl (k := 2) rfl (by rw [ev8]; rfl) (by decide) rfl (fun ls hl => ?_)
        refine lv_goto (tgt := 4) hx hb dX0_timesKnown_27 (by decide) ?_
        exact ih v7 v8 _ _ _ hM (lv_sub hl [2, 1, 0] rfl) (hP.sub [0, 1] rfl) (hD.sub [0, 1] (by decide) rfl) hS
  exact lp_4 F (0 : Int32) (0 : Int32) _ _ _ hM (lv_sub hl [2, 1, 0] rfl) (hP.sub [0, 1] rfl) (hD.sub [0, 1] (by decide) rfl) hS
set_option maxHeartbeats 4000000 in
set_option maxRecDepth 100000 in
theorem mtX0_timesKnown (l : Launch) (D : va_G) (cI cJ cS : ClassId) (sz : Nat) (c_h c_kinds_a c_seating_a c_knows_a c_seals_a c_telling_a : Nat) (c_knows : Nat → Int64) (c_persons : Int32) (c_wax : Int32) (c_week : Int32) (c_day : Int32) (c_draw : Int32) (F : Nat) (r0 : Int32) (hM : fnX0_timesKnown F c_knows c_persons = some r0) : sx_MI l yX0_timesKnown wsX0_timesKnown ({ frames := 1, cells := 0, slots := 0, locals := 21 }) D (sx_T cI cJ cS) sz [.ref c_h] [(c_h, .inr (0, [.ref c_kinds_a, .ref c_seating_a, .ref c_knows_a, .ref c_seals_a, .ref c_telling_a, .int c_persons, .int c_wax, .int c_week, .int c_day, .int c_draw])), (c_knows_a, .inl (cJ, 6, .inr (.inl c_knows)))] r0 [(c_h, .inr (0, [.ref c_kinds_a, .ref c_seating_a, .ref c_knows_a, .ref c_seals_a, .ref c_telling_a, .int c_persons, .int c_wax, .int c_week, .int c_day, .int c_draw])), (c_knows_a, .inl (cJ, 6, .inr (.inl c_knows)))] := by
  refine Met.ofW (cc := cX0_timesKnown) (maxL := 3) (ret := (some .int)) (by decide) rfl ?_
  intro p e s m args below meth c s₁ B hml hv
  obtain ⟨rfl, hsz, hN, hP, hK, hD0⟩ := hv
  subst hsz
  have hl := lv_entry ([.ref c_h]) (n := 3) (Nat.le_of_ble_eq_true rfl)
  rw [lg_entry_eq]
  generalize (lg_sl ([.ref c_h]) ++ List.replicate (3 - (lg_sl ([.ref c_h])).length) Slot.unset).toArray = ls at hl ⊢
  exact kwX0_timesKnown B.exec B.bytes hml (findClass_of_methodNamed B.named) (atoms_spec (ws := wsX0_timesKnown) B.pre) hN hK (fun q h => Or.inr h) (by decide) (by decide) ⟨Nat.zero_le _, Nat.zero_le _⟩ c_h c_kinds_a c_seating_a c_knows_a c_seals_a c_telling_a c_knows c_persons c_wax c_week c_day c_draw F r0 hM _ _ _ hl hP hD0.self va_S.rf (fun H1 locs1 ls1 pc1 hd hP hD hS => W.iret (v := r0) B.exec B.bytes B.returns (fun t ht hW => ⟨⟨r0, (), rfl, rfl, by rw [ht]; exact hP, hD⟩, hS.F ht⟩) hS.2.2 hd)

def bdX0_timesOpen_4 (F : Nat) (c_knows : Nat → Int64) (c_seals : Nat → Int64) (c_persons : Int32) (r_ : Int32 → Int32 → Option (Int32)) (x1_ : Int32) (x2_ : Int32) : Option (Int32) :=
  (if c_persons ≤ x2_ then (some (x1_)) else sx_c1 (fnX0_openOf F c_knows c_seals x2_) (fun (r4 : Int64) => sx_c1 (fnJ13_bitCount_95d88 F r4) (fun (r6 : Int32) => sx_nm (x1_ + r6) (fun (v8 : Int32) => sx_nm (x2_ + (1 : Int32)) (fun (v9 : Int32) => (r_ v8 v9))))))
def fnX0_timesOpen (F : Nat) (c_knows : Nat → Int64) (c_seals : Nat → Int64) (c_persons : Int32) : Option (Int32) :=
  sx_lp2 (bdX0_timesOpen_4 F c_knows c_seals c_persons) F (0 : Int32) (0 : Int32)
set_option maxHeartbeats 4000000 in
set_option maxRecDepth 100000 in
theorem kwX0_timesOpen {p : Program} {l : Launch} {e : Env} {R : Room} {s : State} {m : MethodId} {args : Array Value} {below : List Frame} {meth : Method} {c : Code} {cells slots : Nat} {Q : State → Prop} {A : Nat → Prop} {H0 : Heap} {D : va_G} {cI cJ cS : ClassId} (hx : p.tables.exec = Jvm.exec) (hb : c.code = cX0_timesOpen) (hml : c.maxLocals = 3) (hown : s.vm.findClass RX0 = some m.cls) (hts : ∀ w ∈ wsX0_timesOpen, w.before args s = true) (hN : sx_N s) (hK : va_K D vwCl (sx_T cI cJ cS) s) (hA : ∀ q, H0.size ≤ q → A q) (hRf : 2 ≤ R.frames) (hRl : 42 ≤ R.locals) (hRc : cells ≤ R.cells ∧ slots ≤ R.slots) (c_h c_kinds_a c_seating_a c_knows_a c_seals_a c_telling_a : Nat) (c_knows : Nat → Int64) (c_seals : Nat → Int64) (c_persons : Int32) (c_wax : Int32) (c_week : Int32) (c_day : Int32) (c_draw : Int32) (F : Nat) (r0 : Int32) (hM : fnX0_timesOpen F c_knows c_seals c_persons = some r0) (H : Heap) (locs : List Loc) (ls : Array Slot) (hl : lv_has ls 3 [(0, .ref c_h)]) (hP : va_P D vwCl [(c_h, .inr (0, [.ref c_kinds_a, .ref c_seating_a, .ref c_knows_a, .ref c_seals_a, .ref c_telling_a, .int c_persons, .int c_wax, .int c_week, .int c_day, .int c_draw])), (c_knows_a, .inl (cJ, 6, .inr (.inl c_knows))), (c_seals_a, .inl (cJ, 6, .inr (.inl c_seals)))] H) (hD : va_D A [(c_h, .inr (0, [.ref c_kinds_a, .ref c_seating_a, .ref c_knows_a, .ref c_seals_a, .ref c_telling_a, .int c_persons, .int c_wax, .int c_week, .int c_day, .int c_draw])), (c_knows_a, .inl (cJ, 6, .inr (.inl c_knows))), (c_seals_a, .inl (cJ, 6, .inr (.inl c_seals)))]) (hS : va_S A H0 H locs)
    (hret : ∀ (H1 : Heap) (locs1 : List Loc) (ls1 : Array Slot) (pc1 : Nat), decode cX0_timesOpen pc1 = .ok (.ireturn, 1) → va_P D vwCl [(c_h, .inr (0, [.ref c_kinds_a, .ref c_seating_a, .ref c_knows_a, .ref c_seals_a, .ref c_telling_a, .int c_persons, .int c_wax, .int c_week, .int c_day, .int c_draw])), (c_knows_a, .inl (cJ, 6, .inr (.inl c_knows))), (c_seals_a, .inl (cJ, 6, .inr (.inl c_seals)))] H1 → va_D A [(c_h, .inr (0, [.ref c_kinds_a, .ref c_seating_a, .ref c_knows_a, .ref c_seals_a, .ref c_telling_a, .int c_persons, .int c_wax, .int c_week, .int c_day, .int c_draw])), (c_knows_a, .inl (cJ, 6, .inr (.inl c_knows))), (c_seals_a, .inl (cJ, 6, .inr (.inl c_seals)))] → va_S A H0 H1 locs1 → W p l e R s m args below meth c H1 locs1 cells slots Q (F0 m pc1 ls1 [.int r0])) : W p l e R s m args below meth c H locs cells slots Q (F0 m 0 ls []) := by
  have hf_44 := hts (.fieldLink RX0 44 "SealedLips$Court" "persons" "I") (by decide +kernel)
  have hin_X0 : ∀ w ∈ wsX00, w ∈ wsX0_timesOpen := by decide +kernel
  unfold fnX0_timesOpen at hM
  refine lv_iconst (v := 0) hx hb dX0_timesOpen_0 (by decide) ?_
  refine lv_istore_n (lv' := [(1, .int (0 : Int32)), (0, .ref c_h)]) hx hb dX0_timesOpen_1 rfl hl (by decide) rfl (fun ls hl => ?_)
  refine lv_iconst (v := 0) hx hb dX0_timesOpen_2 (by decide) ?_
  refine lv_istore_n (lv' := [(2, .int (0 : Int32)), (1, .int (0 : Int32)), (0, .ref c_h)]) hx hb dX0_timesOpen_3 rfl hl (by decide) rfl (fun ls hl => ?_)
  have lp_4 : ∀ (n : Nat) (x1 : Int32) (x2 : Int32) (H : Heap) (locs : List Loc) (ls : Array Slot), sx_lp2 (bdX0_timesOpen_4 F c_knows c_seals c_persons) n x1 x2 = some r0 → lv_has ls 3 [(0, .ref c_h), (1, .int x1), (2, .int x2)] → va_P D vwCl [(c_h, .inr (0, [.ref c_kinds_a, .ref c_seating_a, .ref c_knows_a, .ref c_seals_a, .ref c_telling_a, .int c_persons, .int c_wax, .int c_week, .int c_day, .int c_draw])), (c_knows_a, .inl (cJ, 6, .inr (.inl c_knows))), (c_seals_a, .inl (cJ, 6, .inr (.inl c_seals)))] H → va_D A [(c_h, .inr (0, [.ref c_kinds_a, .ref c_seating_a, .ref c_knows_a, .ref c_seals_a, .ref c_telling_a, .int c_persons, .int c_wax, .int c_week, .int c_day, .int c_draw])), (c_knows_a, .inl (cJ, 6, .inr (.inl c_knows))), (c_seals_a, .inl (cJ, 6, .inr (.inl c_seals)))] → va_S A H0 H locs → W p l e R s m args below meth c H locs cells slots Q (F0 m 4 ls ([])) := by
    intro n
    induction n with
    | zero => intro x1 x2 H locs ls hM; exact (sx_lp2_0 hM).elim
    | succ n ih =>
      intro x1 x2 H locs ls hM hl hP hD hS
      have hM : bdX0_timesOpen_4 F c_knows c_seals c_persons (sx_lp2 (bdX0_timesOpen_4 F c_knows c_seals c_persons) n) x1 x2 = some r0 := hM
      generalize sx_lp2 (bdX0_timesOpen_4 F c_knows c_seals c_persons) n = r_4 at hM ih
      unfold bdX0_timesOpen_4 at hM
      refine lv_iload_n hx hb dX0_timesOpen_4 rfl (lv_at hl 2 rfl) ?_
      refine lv_aload_n hx hb dX0_timesOpen_5 rfl (lv_at hl 0 rfl) ?_
      refine va_get (D := D) (ci := 0) (v := .int c_persons) (C := RX0) (T := TX0) (N := 10) hx hb hts hin_X0 hown hK hP 0 rfl rfl 5 (by decide) hf_44 (fun _ h9 => h9) rfl dX0_timesOpen_6 ?_
      refine lv_icmp_ge (tgt := 29) hx hb dX0_timesOpen_9 (by decide) (fun c3 => ?_) (fun c3 => ?_)
      · replace hM := sx_ift c3 hM
        refine lv_iload_n hx hb dX0_timesOpen_29 rfl (lv_at hl 1 rfl) ?_
        obtain rfl := sx_o1 hM
        exact hret _ _ _ _ dX0_timesOpen_30 (hP.sub [0, 1, 2] rfl) (hD.sub [0, 1, 2] (by decide) rfl) hS
      · replace hM := sx_iff c3 hM
        refine lv_iload_n hx hb dX0_timesOpen_12 rfl (lv_at hl 1 rfl) ?_
        refine lv_aload_n hx hb dX0_timesOpen_13 rfl (lv_at hl 0 rfl) ?_
        refine lv_iload_n hx hb dX0_timesOpen_14 rfl (lv_at hl 2 rfl) ?_
        obtain ⟨r4, hc5, hM⟩ := sx_c1_s hM
        refine sx_lV (As := [.int x2]) (rest := [.int x1]) (wc := [(c_h, .inr (0, [.ref c_kinds_a, .ref c_seating_a, .ref c_knows_a, .ref c_seals_a, .ref c_telling_a, .int c_persons, .int c_wax, .int c_week, .int c_day, .int c_draw])), (c_knows_a, .inl (cJ, 6, .inr (.inl c_knows))), (c_seals_a, .inl (cJ, 6, .inr (.inl c_seals)))]) (wr := []) (w1 := [(c_h, .inr (0, [.ref c_kinds_a, .ref c_seating_a, .ref c_knows_a, .ref c_seals_a, .ref c_telling_a, .int c_persons, .int c_wax, .int c_week, .int c_day, .int c_draw])), (c_knows_a, .inl (cJ, 6, .inr (.inl c_knows))), (c_seals_a, .inl (cJ, 6, .inr (.inl c_seals)))]) ⟨hx, hb, hml, hown, hts⟩ (mtX0_openOf l D cI cJ cS H.size c_h c_kinds_a c_seating_a c_knows_a c_seals_a c_telling_a c_knows c_seals c_persons c_wax c_week c_day c_draw x2 F r4 hc5) (cwV 1 hts gX0_timesOpen_X0_openOf rfl rfl rfl (by decide +kernel) ⟨Nat.le_trans (by decide) hRf, Nat.le_trans (by decide) hRl⟩) hK hN hP hD hS hA [0, 1, 2] [] rfl (by decide) rfl (by decide) (by decide) rfl rfl rfl rfl hl.1 rfl (Nat.le_of_ble_eq_true rfl) dX0_timesOpen_15 hRc (fun H locs hP hD hS => ?_)
        have hP : va_P D vwCl [(c_h, .inr (0, [.ref c_kinds_a, .ref c_seating_a, .ref c_knows_a, .ref c_seals_a, .ref c_telling_a, .int c_persons, .int c_wax, .int c_week, .int c_day, .int c_draw])), (c_knows_a, .inl (cJ, 6, .inr (.inl c_knows))), (c_seals_a, .inl (cJ, 6, .inr (.inl c_seals)))] H := hP
        have hD : va_D A [(c_h, .inr (0, [.ref c_kinds_a, .ref c_seating_a, .ref c_knows_a, .ref c_seals_a, .ref c_telling_a, .int c_persons, .int c_wax, .int c_week, .int c_day, .int c_draw])), (c_knows_a, .inl (cJ, 6, .inr (.inl c_knows))), (c_seals_a, .inl (cJ, 6, .inr (.inl c_seals)))] := hD
        obtain ⟨r6, hc7, hM⟩ := sx_c1_s hM
        refine sx_iS (As := [.long r4]) (rest := [.int x1]) (wc := []) (wr := [(c_h, .inr (0, [.ref c_kinds_a, .ref c_seating_a, .ref c_knows_a, .ref c_seals_a, .ref c_telling_a, .int c_persons, .int c_wax, .int c_week, .int c_day, .int c_draw])), (c_knows_a, .inl (cJ, 6, .inr (.inl c_knows))), (c_seals_a, .inl (cJ, 6, .inr (.inl c_seals)))]) (w1 := []) ⟨hx, hb, hml, hown, hts⟩ (mtJ13_bitCount_95d88 l D cI cJ cS H.size r4 F r6 hc7) (va_cwS 1 hts gX0_timesOpen_J13_bitCount_95d88 rfl rfl rfl (by decide +kernel) ⟨Nat.le_trans (by decide) hRf, Nat.le_trans (by decide) hRl⟩) hK hN hP hD hS hA [] [0, 1, 2] rfl (by decide) rfl (by decide) (by decide) rfl hl.1 rfl (Nat.le_of_ble_eq_true rfl) dX0_timesOpen_18 hRc (fun H locs hP hD hS => ?_)
        have hP : va_P D vwCl [(c_h, .inr (0, [.ref c_kinds_a, .ref c_seating_a, .ref c_knows_a, .ref c_seals_a, .ref c_telling_a, .int c_persons, .int c_wax, .int c_week, .int c_day, .int c_draw])), (c_knows_a, .inl (cJ, 6, .inr (.inl c_knows))), (c_seals_a, .inl (cJ, 6, .inr (.inl c_seals)))] H := hP
        have hD : va_D A [(c_h, .inr (0, [.ref c_kinds_a, .ref c_seating_a, .ref c_knows_a, .ref c_seals_a, .ref c_telling_a, .int c_persons, .int c_wax, .int c_week, .int c_day, .int c_draw])), (c_knows_a, .inl (cJ, 6, .inr (.inl c_knows))), (c_seals_a, .inl (cJ, 6, .inr (.inl c_seals)))] := hD
        refine lv_iadd hx hb dX0_timesOpen_21 ?_
        obtain ⟨v8, ev8, hM⟩ := sx_nm_s hM
        refine W.eq (g2 := F0 m 22 ls (.int v8 :: [])) (by subst ev8; rfl) ?_
        refine lv_istore_n (lv' := [(1, .int v8), (0, .ref c_h), (2, .int x2)]) hx hb dX0_timesOpen_22 rfl hl (by decide) rfl (fun ls hl => ?_)
        obtain ⟨v9, ev9, hM⟩ := sx_nm_s hM
        refine lv_iinc (v := v9) (lv' := [(2, .int v9), (1, .int v8), (0, .ref c_h)]) hx hb dX0_timesOpen_23 hl (k := 2) rfl (by rw [ev9]; rfl) (by decide) rfl (fun ls hl => ?_)
        refine lv_goto (tgt := 4) hx hb dX0_timesOpen_26 (by decide) ?_
        exact ih v8 v9 _ _ _ hM (lv_sub hl [2, 1, 0] rfl) (hP.sub [0, 1, 2] rfl) (hD.sub [0, 1, 2] (by decide) rfl) hS
  exact lp_4 F (0 : Int32) (0 : Int32) _ _ _ hM (lv_sub hl [2, 1, 0] rfl) (hP.sub [0, 1, 2] rfl) (hD.sub [0, 1, 2] (by decide) rfl) hS
set_option maxHeartbeats 4000000 in
set_option maxRecDepth 100000 in
theorem mtX0_timesOpen (l : Launch) (D : va_G) (cI cJ cS : ClassId) (sz : Nat) (c_h c_kinds_a c_seating_a c_knows_a c_seals_a c_telling_a : Nat) (c_knows : Nat → Int64) (c_seals : Nat → Int64) (c_persons : Int32) (c_wax : Int32) (c_week : Int32) (c_day : Int32) (c_draw : Int32) (F : Nat) (r0 : Int32) (hM : fnX0_timesOpen F c_knows c_seals c_persons = some r0) : sx_MI l yX0_timesOpen wsX0_timesOpen ({ frames := 2, cells := 0, slots := 0, locals := 42 }) D (sx_T cI cJ cS) sz [.ref c_h] [(c_h, .inr (0, [.ref c_kinds_a, .ref c_seating_a, .ref c_knows_a, .ref c_seals_a, .ref c_telling_a, .int c_persons, .int c_wax, .int c_week, .int c_day, .int c_draw])), (c_knows_a, .inl (cJ, 6, .inr (.inl c_knows))), (c_seals_a, .inl (cJ, 6, .inr (.inl c_seals)))] r0 [(c_h, .inr (0, [.ref c_kinds_a, .ref c_seating_a, .ref c_knows_a, .ref c_seals_a, .ref c_telling_a, .int c_persons, .int c_wax, .int c_week, .int c_day, .int c_draw])), (c_knows_a, .inl (cJ, 6, .inr (.inl c_knows))), (c_seals_a, .inl (cJ, 6, .inr (.inl c_seals)))] := by
  refine Met.ofW (cc := cX0_timesOpen) (maxL := 3) (ret := (some .int)) (by decide) rfl ?_
  intro p e s m args below meth c s₁ B hml hv
  obtain ⟨rfl, hsz, hN, hP, hK, hD0⟩ := hv
  subst hsz
  have hl := lv_entry ([.ref c_h]) (n := 3) (Nat.le_of_ble_eq_true rfl)
  rw [lg_entry_eq]
  generalize (lg_sl ([.ref c_h]) ++ List.replicate (3 - (lg_sl ([.ref c_h])).length) Slot.unset).toArray = ls at hl ⊢
  exact kwX0_timesOpen B.exec B.bytes hml (findClass_of_methodNamed B.named) (atoms_spec (ws := wsX0_timesOpen) B.pre) hN hK (fun q h => Or.inr h) (by decide) (by decide) ⟨Nat.zero_le _, Nat.zero_le _⟩ c_h c_kinds_a c_seating_a c_knows_a c_seals_a c_telling_a c_knows c_seals c_persons c_wax c_week c_day c_draw F r0 hM _ _ _ hl hP hD0.self va_S.rf (fun H1 locs1 ls1 pc1 hd hP hD hS => W.iret (v := r0) B.exec B.bytes B.returns (fun t ht hW => ⟨⟨r0, (), rfl, rfl, by rw [ht]; exact hP, hD⟩, hS.F ht⟩) hS.2.2 hd)

def fnX0_daysToRenewal (F : Nat) (c_week : Int32) (c_day : Int32) : Option (Int32) :=
  (if c_week ≤ 0 then (some ((0 : Int32))) else sx_gd (sx_nz c_week) ((some ((c_week - (c_day - c_day / c_week * c_week))))))
set_option maxHeartbeats 4000000 in
set_option maxRecDepth 100000 in
theorem kwX0_daysToRenewal {p : Program} {l : Launch} {e : Env} {R : Room} {s : State} {m : MethodId} {args : Array Value} {below : List Frame} {meth : Method} {c : Code} {cells slots : Nat} {Q : State → Prop} {A : Nat → Prop} {H0 : Heap} {D : va_G} {cI cJ cS : ClassId} (hx : p.tables.exec = Jvm.exec) (hb : c.code = cX0_daysToRenewal) (hml : c.maxLocals = 1) (hown : s.vm.findClass RX0 = some m.cls) (hts : ∀ w ∈ wsX0_daysToRenewal, w.before args s = true) (hN : sx_N s) (hK : va_K D vwCl (sx_T cI cJ cS) s) (hA : ∀ q, H0.size ≤ q → A q) (hRf : 0 ≤ R.frames) (hRl : 0 ≤ R.locals) (hRc : cells ≤ R.cells ∧ slots ≤ R.slots) (c_h c_kinds_a c_seating_a c_knows_a c_seals_a c_telling_a : Nat) (c_persons : Int32) (c_wax : Int32) (c_week : Int32) (c_day : Int32) (c_draw : Int32) (F : Nat) (r0 : Int32) (hM : fnX0_daysToRenewal F c_week c_day = some r0) (H : Heap) (locs : List Loc) (ls : Array Slot) (hl : lv_has ls 1 [(0, .ref c_h)]) (hP : va_P D vwCl [(c_h, .inr (0, [.ref c_kinds_a, .ref c_seating_a, .ref c_knows_a, .ref c_seals_a, .ref c_telling_a, .int c_persons, .int c_wax, .int c_week, .int c_day, .int c_draw]))] H) (hD : va_D A [(c_h, .inr (0, [.ref c_kinds_a, .ref c_seating_a, .ref c_knows_a, .ref c_seals_a, .ref c_telling_a, .int c_persons, .int c_wax, .int c_week, .int c_day, .int c_draw]))]) (hS : va_S A H0 H locs)
    (hret : ∀ (H1 : Heap) (locs1 : List Loc) (ls1 : Array Slot) (pc1 : Nat), decode cX0_daysToRenewal pc1 = .ok (.ireturn, 1) → va_P D vwCl [(c_h, .inr (0, [.ref c_kinds_a, .ref c_seating_a, .ref c_knows_a, .ref c_seals_a, .ref c_telling_a, .int c_persons, .int c_wax, .int c_week, .int c_day, .int c_draw]))] H1 → va_D A [(c_h, .inr (0, [.ref c_kinds_a, .ref c_seating_a, .ref c_knows_a, .ref c_seals_a, .ref c_telling_a, .int c_persons, .int c_wax, .int c_week, .int c_day, .int c_draw]))] → va_S A H0 H1 locs1 → W p l e R s m args below meth c H1 locs1 cells slots Q (F0 m pc1 ls1 [.int r0])) : W p l e R s m args below meth c H locs cells slots Q (F0 m 0 ls []) := by
  have hf_32 := hts (.fieldLink RX0 32 "SealedLips$Court" "week" "I") (by decide +kernel)
  have hf_47 := hts (.fieldLink RX0 47 "SealedLips$Court" "day" "I") (by decide +kernel)
  have hin_X0 : ∀ w ∈ wsX00, w ∈ wsX0_daysToRenewal := by decide +kernel
  unfold fnX0_daysToRenewal at hM
  refine lv_aload_n hx hb dX0_daysToRenewal_0 rfl (lv_at hl 0 rfl) ?_
  refine va_get (D := D) (ci := 0) (v := .int c_week) (C := RX0) (T := TX0) (N := 10) hx hb hts hin_X0 hown hK hP 0 rfl rfl 7 (by decide) hf_32 (fun _ h9 => h9) rfl dX0_daysToRenewal_1 ?_
  refine lv_if_le (tgt := 24) hx hb dX0_daysToRenewal_4 (by decide) (fun c1 => ?_) (fun c1 => ?_)
  · replace hM := sx_ift c1 hM
    refine lv_iconst (v := 0) hx hb dX0_daysToRenewal_24 (by decide) ?_
    obtain rfl := sx_o1 hM
    exact hret _ _ _ _ dX0_daysToRenewal_25 (hP.sub [0] rfl) (hD.sub [0] (by decide) rfl) hS
  · replace hM := sx_iff c1 hM
    refine lv_aload_n hx hb dX0_daysToRenewal_7 rfl (lv_at hl 0 rfl) ?_
    refine va_get (D := D) (ci := 0) (v := .int c_week) (C := RX0) (T := TX0) (N := 10) hx hb hts hin_X0 hown hK hP 0 rfl rfl 7 (by decide) hf_32 (fun _ h9 => h9) rfl dX0_daysToRenewal_8 ?_
    refine lv_aload_n hx hb dX0_daysToRenewal_11 rfl (lv_at hl 0 rfl) ?_
    refine va_get (D := D) (ci := 0) (v := .int c_day) (C := RX0) (T := TX0) (N := 10) hx hb hts hin_X0 hown hK hP 0 rfl rfl 8 (by decide) hf_47 (fun _ h9 => h9) rfl dX0_daysToRenewal_12 ?_
    refine lv_aload_n hx hb dX0_daysToRenewal_15 rfl (lv_at hl 0 rfl) ?_
    refine va_get (D := D) (ci := 0) (v := .int c_week) (C := RX0) (T := TX0) (N := 10) hx hb hts hin_X0 hown hK hP 0 rfl rfl 7 (by decide) hf_32 (fun _ h9 => h9) rfl dX0_daysToRenewal_16 ?_
    obtain ⟨g2, hM⟩ := sx_gd_s hM
    refine lv_irem hx hb dX0_daysToRenewal_19 (sx_nz_s g2) ?_
    refine lv_isub hx hb dX0_daysToRenewal_20 ?_
    refine lv_goto (tgt := 25) hx hb dX0_daysToRenewal_21 (by decide) ?_
    obtain rfl := sx_o1 hM
    exact hret _ _ _ _ dX0_daysToRenewal_25 (hP.sub [0] rfl) (hD.sub [0] (by decide) rfl) hS
set_option maxHeartbeats 4000000 in
set_option maxRecDepth 100000 in
theorem mtX0_daysToRenewal (l : Launch) (D : va_G) (cI cJ cS : ClassId) (sz : Nat) (c_h c_kinds_a c_seating_a c_knows_a c_seals_a c_telling_a : Nat) (c_persons : Int32) (c_wax : Int32) (c_week : Int32) (c_day : Int32) (c_draw : Int32) (F : Nat) (r0 : Int32) (hM : fnX0_daysToRenewal F c_week c_day = some r0) : sx_MI l yX0_daysToRenewal wsX0_daysToRenewal ({ frames := 0, cells := 0, slots := 0, locals := 0 }) D (sx_T cI cJ cS) sz [.ref c_h] [(c_h, .inr (0, [.ref c_kinds_a, .ref c_seating_a, .ref c_knows_a, .ref c_seals_a, .ref c_telling_a, .int c_persons, .int c_wax, .int c_week, .int c_day, .int c_draw]))] r0 [(c_h, .inr (0, [.ref c_kinds_a, .ref c_seating_a, .ref c_knows_a, .ref c_seals_a, .ref c_telling_a, .int c_persons, .int c_wax, .int c_week, .int c_day, .int c_draw]))] := by
  refine Met.ofW (cc := cX0_daysToRenewal) (maxL := 1) (ret := (some .int)) (by decide) rfl ?_
  intro p e s m args below meth c s₁ B hml hv
  obtain ⟨rfl, hsz, hN, hP, hK, hD0⟩ := hv
  subst hsz
  have hl := lv_entry ([.ref c_h]) (n := 1) (Nat.le_of_ble_eq_true rfl)
  rw [lg_entry_eq]
  generalize (lg_sl ([.ref c_h]) ++ List.replicate (1 - (lg_sl ([.ref c_h])).length) Slot.unset).toArray = ls at hl ⊢
  exact kwX0_daysToRenewal B.exec B.bytes hml (findClass_of_methodNamed B.named) (atoms_spec (ws := wsX0_daysToRenewal) B.pre) hN hK (fun q h => Or.inr h) (by decide) (by decide) ⟨Nat.zero_le _, Nat.zero_le _⟩ c_h c_kinds_a c_seating_a c_knows_a c_seals_a c_telling_a c_persons c_wax c_week c_day c_draw F r0 hM _ _ _ hl hP hD0.self va_S.rf (fun H1 locs1 ls1 pc1 hd hP hD hS => W.iret (v := r0) B.exec B.bytes B.returns (fun t ht hW => ⟨⟨r0, (), rfl, rfl, by rw [ht]; exact hP, hD⟩, hS.F ht⟩) hS.2.2 hd)

def bdX0_renewAll_2 (F : Nat) (c_knows : Nat → Int64) (c_persons : Int32) (c_wax : Int32) (r_ : Int32 → (Nat → Int64) → Option ((Nat → Int64))) (x1_ : Int32) (c_seals : Nat → Int64) : Option ((Nat → Int64)) :=
  (if c_persons ≤ x1_ then (some (c_seals)) else sx_gd (sx_ib x1_ 6) (sx_gd (sx_ib x1_ 6) (sx_nm (x1_ + (1 : Int32)) (fun (v6 : Int32) => (r_ v6 (vp_updL c_seals (x1_).toNatClampNeg ((c_knows (x1_).toNatClampNeg) * (c_wax).toInt64)))))))
def fnX0_renewAll (F : Nat) (c_knows : Nat → Int64) (c_seals : Nat → Int64) (c_persons : Int32) (c_wax : Int32) : Option ((Nat → Int64)) :=
  sx_lp2 (bdX0_renewAll_2 F c_knows c_persons c_wax) F (0 : Int32) c_seals
set_option maxHeartbeats 4000000 in
set_option maxRecDepth 100000 in
theorem kwX0_renewAll {p : Program} {l : Launch} {e : Env} {R : Room} {s : State} {m : MethodId} {args : Array Value} {below : List Frame} {meth : Method} {c : Code} {cells slots : Nat} {Q : State → Prop} {A : Nat → Prop} {H0 : Heap} {D : va_G} {cI cJ cS : ClassId} (hx : p.tables.exec = Jvm.exec) (hb : c.code = cX0_renewAll) (hml : c.maxLocals = 2) (hown : s.vm.findClass RX0 = some m.cls) (hts : ∀ w ∈ wsX0_renewAll, w.before args s = true) (hN : sx_N s) (hK : va_K D vwCl (sx_T cI cJ cS) s) (hA : ∀ q, H0.size ≤ q → A q) (hRf : 0 ≤ R.frames) (hRl : 0 ≤ R.locals) (hRc : cells ≤ R.cells ∧ slots ≤ R.slots) (c_h c_kinds_a c_seating_a c_knows_a c_seals_a c_telling_a : Nat) (c_knows : Nat → Int64) (c_seals : Nat → Int64) (c_persons : Int32) (c_wax : Int32) (c_week : Int32) (c_day : Int32) (c_draw : Int32) (F : Nat) (w_c_seals : Nat → Int64) (hM : fnX0_renewAll F c_knows c_seals c_persons c_wax = some w_c_seals) (H : Heap) (locs : List Loc) (ls : Array Slot) (hl : lv_has ls 2 [(0, .ref c_h)]) (hP : va_P D vwCl [(c_h, .inr (0, [.ref c_kinds_a, .ref c_seating_a, .ref c_knows_a, .ref c_seals_a, .ref c_telling_a, .int c_persons, .int c_wax, .int c_week, .int c_day, .int c_draw])), (c_knows_a, .inl (cJ, 6, .inr (.inl c_knows))), (c_seals_a, .inl (cJ, 6, .inr (.inl c_seals)))] H) (hD : va_D A [(c_h, .inr (0, [.ref c_kinds_a, .ref c_seating_a, .ref c_knows_a, .ref c_seals_a, .ref c_telling_a, .int c_persons, .int c_wax, .int c_week, .int c_day, .int c_draw])), (c_knows_a, .inl (cJ, 6, .inr (.inl c_knows))), (c_seals_a, .inl (cJ, 6, .inr (.inl c_seals)))]) (hS : va_S A H0 H locs)
    (hret : ∀ (H1 : Heap) (locs1 : List Loc) (ls1 : Array Slot) (pc1 : Nat), decode cX0_renewAll pc1 = .ok (.return_, 1) → va_P D vwCl [(c_h, .inr (0, [.ref c_kinds_a, .ref c_seating_a, .ref c_knows_a, .ref c_seals_a, .ref c_telling_a, .int c_persons, .int c_wax, .int c_week, .int c_day, .int c_draw])), (c_knows_a, .inl (cJ, 6, .inr (.inl c_knows))), (c_seals_a, .inl (cJ, 6, .inr (.inl w_c_seals)))] H1 → va_D A [(c_h, .inr (0, [.ref c_kinds_a, .ref c_seating_a, .ref c_knows_a, .ref c_seals_a, .ref c_telling_a, .int c_persons, .int c_wax, .int c_week, .int c_day, .int c_draw])), (c_knows_a, .inl (cJ, 6, .inr (.inl c_knows))), (c_seals_a, .inl (cJ, 6, .inr (.inl w_c_seals)))] → va_S A H0 H1 locs1 → W p l e R s m args below meth c H1 locs1 cells slots Q (F0 m pc1 ls1 [])) : W p l e R s m args below meth c H locs cells slots Q (F0 m 0 ls []) := by
  have hf_18 := hts (.fieldLink RX0 18 "SealedLips$Court" "knows" "[J") (by decide +kernel)
  have hf_22 := hts (.fieldLink RX0 22 "SealedLips$Court" "seals" "[J") (by decide +kernel)
  have hf_28 := hts (.fieldLink RX0 28 "SealedLips$Court" "wax" "I") (by decide +kernel)
  have hf_44 := hts (.fieldLink RX0 44 "SealedLips$Court" "persons" "I") (by decide +kernel)
  have hin_X0 : ∀ w ∈ wsX00, w ∈ wsX0_renewAll := by decide +kernel
  unfold fnX0_renewAll at hM
  refine lv_iconst (v := 0) hx hb dX0_renewAll_0 (by decide) ?_
  refine lv_istore_n (lv' := [(1, .int (0 : Int32)), (0, .ref c_h)]) hx hb dX0_renewAll_1 rfl hl (by decide) rfl (fun ls hl => ?_)
  have lp_2 : ∀ (n : Nat) (x1 : Int32) (z2 : Nat → Int64) (H : Heap) (locs : List Loc) (ls : Array Slot), sx_lp2 (bdX0_renewAll_2 F c_knows c_persons c_wax) n x1 z2 = some w_c_seals → lv_has ls 2 [(0, .ref c_h), (1, .int x1)] → va_P D vwCl [(c_h, .inr (0, [.ref c_kinds_a, .ref c_seating_a, .ref c_knows_a, .ref c_seals_a, .ref c_telling_a, .int c_persons, .int c_wax, .int c_week, .int c_day, .int c_draw])), (c_knows_a, .inl (cJ, 6, .inr (.inl c_knows))), (c_seals_a, .inl (cJ, 6, .inr (.inl z2)))] H → va_D A [(c_h, .inr (0, [.ref c_kinds_a, .ref c_seating_a, .ref c_knows_a, .ref c_seals_a, .ref c_telling_a, .int c_persons, .int c_wax, .int c_week, .int c_day, .int c_draw])), (c_knows_a, .inl (cJ, 6, .inr (.inl c_knows))), (c_seals_a, .inl (cJ, 6, .inr (.inl z2)))] → va_S A H0 H locs → W p l e R s m args below meth c H locs cells slots Q (F0 m 2 ls ([])) := by
    intro n
    induction n with
    | zero => intro x1 z2 H locs ls hM; exact (sx_lp2_0 hM).elim
    | succ n ih =>
      intro x1 z2 H locs ls hM hl hP hD hS
      have hM : bdX0_renewAll_2 F c_knows c_persons c_wax (sx_lp2 (bdX0_renewAll_2 F c_knows c_persons c_wax) n) x1 z2 = some w_c_seals := hM
      generalize sx_lp2 (bdX0_renewAll_2 F c_knows c_persons c_wax) n = r_2 at hM ih
      unfold bdX0_renewAll_2 at hM
      refine lv_iload_n hx hb dX0_renewAll_2 rfl (lv_at hl 1 rfl) ?_
      refine lv_aload_n hx hb dX0_renewAll_3 rfl (lv_at hl 0 rfl) ?_
      refine va_get (D := D) (ci := 0) (v := .int c_persons) (C := RX0) (T := TX0) (N := 10) hx hb hts hin_X0 hown hK hP 0 rfl rfl 5 (by decide) hf_44 (fun _ h9 => h9) rfl dX0_renewAll_4 ?_
      refine lv_icmp_ge (tgt := 34) hx hb dX0_renewAll_7 (by decide) (fun c3 => ?_) (fun c3 => ?_)
      · replace hM := sx_ift c3 hM
        obtain rfl := sx_o1 hM
        exact hret _ _ _ _ dX0_renewAll_34 (hP.sub [0, 1, 2] rfl) (hD.sub [0, 1, 2] (by decide) rfl) hS
      · replace hM := sx_iff c3 hM
        refine lv_aload_n hx hb dX0_renewAll_10 rfl (lv_at hl 0 rfl) ?_
        refine va_get (D := D) (ci := 0) (v := .ref c_seals_a) (C := RX0) (T := TX0) (N := 10) hx hb hts hin_X0 hown hK hP 0 rfl rfl 3 (by decide) hf_22 (fun _ h9 => h9) rfl dX0_renewAll_11 ?_
        refine lv_iload_n hx hb dX0_renewAll_14 rfl (lv_at hl 1 rfl) ?_
        refine lv_aload_n hx hb dX0_renewAll_15 rfl (lv_at hl 0 rfl) ?_
        refine va_get (D := D) (ci := 0) (v := .ref c_knows_a) (C := RX0) (T := TX0) (N := 10) hx hb hts hin_X0 hown hK hP 0 rfl rfl 2 (by decide) hf_18 (fun _ h9 => h9) rfl dX0_renewAll_16 ?_
        refine lv_iload_n hx hb dX0_renewAll_19 rfl (lv_at hl 1 rfl) ?_
        obtain ⟨g4, hM⟩ := sx_gd_s hM
        refine va_lald hx hb hK hP 1 1 rfl rfl (sx_ib_s g4) dX0_renewAll_20 ?_
        refine lv_aload_n hx hb dX0_renewAll_21 rfl (lv_at hl 0 rfl) ?_
        refine va_get (D := D) (ci := 0) (v := .int c_wax) (C := RX0) (T := TX0) (N := 10) hx hb hts hin_X0 hown hK hP 0 rfl rfl 6 (by decide) hf_28 (fun _ h9 => h9) rfl dX0_renewAll_22 ?_
        refine lv_i2l hx hb dX0_renewAll_25 rfl ?_
        refine lv_lmul hx hb dX0_renewAll_26 ?_
        obtain ⟨g5, hM⟩ := sx_gd_s hM
        refine va_last hx hb hK hP hD hS 2 1 rfl rfl (sx_ib_s g5) dX0_renewAll_27 (fun H locs hP hD hS => ?_)
        have hP : va_P D vwCl [(c_h, .inr (0, [.ref c_kinds_a, .ref c_seating_a, .ref c_knows_a, .ref c_seals_a, .ref c_telling_a, .int c_persons, .int c_wax, .int c_week, .int c_day, .int c_draw])), (c_knows_a, .inl (cJ, 6, .inr (.inl c_knows))), (c_seals_a, .inl (cJ, 6, .inr (.inl (vp_updL z2 (x1).toNatClampNeg ((c_knows (x1).toNatClampNeg) * (c_wax).toInt64)))))] H := hP
        have hD : va_D A [(c_h, .inr (0, [.ref c_kinds_a, .ref c_seating_a, .ref c_knows_a, .ref c_seals_a, .ref c_telling_a, .int c_persons, .int c_wax, .int c_week, .int c_day, .int c_draw])), (c_knows_a, .inl (cJ, 6, .inr (.inl c_knows))), (c_seals_a, .inl (cJ, 6, .inr (.inl (vp_updL z2 (x1).toNatClampNeg ((c_knows (x1).toNatClampNeg) * (c_wax).toInt64)))))] := hD
        obtain ⟨v6, ev6, hM⟩ := sx_nm_s hM
        refine lv_iinc (v := v6) (lv' := [(1, .int v6), (0, .ref c_h)]) hx hb dX0_renewAll_28 hl (k := 1) rfl (by rw [ev6]; rfl) (by decide) rfl (fun ls hl => ?_)
        refine lv_goto (tgt := 2) hx hb dX0_renewAll_31 (by decide) ?_
        exact ih v6 (vp_updL z2 (x1).toNatClampNeg ((c_knows (x1).toNatClampNeg) * (c_wax).toInt64)) _ _ _ hM (lv_sub hl [1, 0] rfl) (hP.sub [0, 1, 2] rfl) (hD.sub [0, 1, 2] (by decide) rfl) hS
  exact lp_2 F (0 : Int32) c_seals _ _ _ hM (lv_sub hl [1, 0] rfl) (hP.sub [0, 1, 2] rfl) (hD.sub [0, 1, 2] (by decide) rfl) hS
set_option maxHeartbeats 4000000 in
set_option maxRecDepth 100000 in
theorem mtX0_renewAll (l : Launch) (D : va_G) (cI cJ cS : ClassId) (sz : Nat) (c_h c_kinds_a c_seating_a c_knows_a c_seals_a c_telling_a : Nat) (c_knows : Nat → Int64) (c_seals : Nat → Int64) (c_persons : Int32) (c_wax : Int32) (c_week : Int32) (c_day : Int32) (c_draw : Int32) (F : Nat) (w_c_seals : Nat → Int64) (hM : fnX0_renewAll F c_knows c_seals c_persons c_wax = some w_c_seals) : sx_MV l yX0_renewAll wsX0_renewAll ({ frames := 0, cells := 0, slots := 0, locals := 0 }) D (sx_T cI cJ cS) sz [.ref c_h] [(c_h, .inr (0, [.ref c_kinds_a, .ref c_seating_a, .ref c_knows_a, .ref c_seals_a, .ref c_telling_a, .int c_persons, .int c_wax, .int c_week, .int c_day, .int c_draw])), (c_knows_a, .inl (cJ, 6, .inr (.inl c_knows))), (c_seals_a, .inl (cJ, 6, .inr (.inl c_seals)))] [(c_h, .inr (0, [.ref c_kinds_a, .ref c_seating_a, .ref c_knows_a, .ref c_seals_a, .ref c_telling_a, .int c_persons, .int c_wax, .int c_week, .int c_day, .int c_draw])), (c_knows_a, .inl (cJ, 6, .inr (.inl c_knows))), (c_seals_a, .inl (cJ, 6, .inr (.inl w_c_seals)))] := by
  refine Met.ofW (cc := cX0_renewAll) (maxL := 2) (ret := none) (by decide) rfl ?_
  intro p e s m args below meth c s₁ B hml hv
  obtain ⟨rfl, hsz, hN, hP, hK, hD0⟩ := hv
  subst hsz
  have hl := lv_entry ([.ref c_h]) (n := 2) (Nat.le_of_ble_eq_true rfl)
  rw [lg_entry_eq]
  generalize (lg_sl ([.ref c_h]) ++ List.replicate (2 - (lg_sl ([.ref c_h])).length) Slot.unset).toArray = ls at hl ⊢
  exact kwX0_renewAll B.exec B.bytes hml (findClass_of_methodNamed B.named) (atoms_spec (ws := wsX0_renewAll) B.pre) hN hK (fun q h => Or.inr h) (by decide) (by decide) ⟨Nat.zero_le _, Nat.zero_le _⟩ c_h c_kinds_a c_seating_a c_knows_a c_seals_a c_telling_a c_knows c_seals c_persons c_wax c_week c_day c_draw F w_c_seals hM _ _ _ hl hP hD0.self va_S.rf (fun H1 locs1 ls1 pc1 hd hP hD hS => W.vret B.exec B.bytes B.returns (fun t ht hW => ⟨⟨(), rfl, trivial, by rw [ht]; exact hP, hD⟩, hS.F ht⟩) hS.2.2 hd)

def fnX0_drawHeat (F : Nat) (c_draw : Int32) : Option (Int32 × Int32) :=
  (some ((((((c_draw * (1103515245 : Int32)) + (12345 : Int32)) &&& (2147483647 : Int32)) / (65536 : Int32)) - ((((c_draw * (1103515245 : Int32)) + (12345 : Int32)) &&& (2147483647 : Int32)) / (65536 : Int32)) / (10 : Int32) * (10 : Int32)), (((c_draw * (1103515245 : Int32)) + (12345 : Int32)) &&& (2147483647 : Int32))))
set_option maxHeartbeats 4000000 in
set_option maxRecDepth 100000 in
theorem kwX0_drawHeat {p : Program} {l : Launch} {e : Env} {R : Room} {s : State} {m : MethodId} {args : Array Value} {below : List Frame} {meth : Method} {c : Code} {cells slots : Nat} {Q : State → Prop} {A : Nat → Prop} {H0 : Heap} {D : va_G} {cI cJ cS : ClassId} (hx : p.tables.exec = Jvm.exec) (hb : c.code = cX0_drawHeat) (hml : c.maxLocals = 1) (hown : s.vm.findClass RX0 = some m.cls) (hts : ∀ w ∈ wsX0_drawHeat, w.before args s = true) (hN : sx_N s) (hK : va_K D vwCl (sx_T cI cJ cS) s) (hA : ∀ q, H0.size ≤ q → A q) (hRf : 0 ≤ R.frames) (hRl : 0 ≤ R.locals) (hRc : cells ≤ R.cells ∧ slots ≤ R.slots) (c_h c_kinds_a c_seating_a c_knows_a c_seals_a c_telling_a : Nat) (c_persons : Int32) (c_wax : Int32) (c_week : Int32) (c_day : Int32) (c_draw : Int32) (F : Nat) (r0 : Int32) (w_c_draw : Int32) (hM : fnX0_drawHeat F c_draw = some (r0, w_c_draw)) (H : Heap) (locs : List Loc) (ls : Array Slot) (hl : lv_has ls 1 [(0, .ref c_h)]) (hP : va_P D vwCl [(c_h, .inr (0, [.ref c_kinds_a, .ref c_seating_a, .ref c_knows_a, .ref c_seals_a, .ref c_telling_a, .int c_persons, .int c_wax, .int c_week, .int c_day, .int c_draw]))] H) (hD : va_D A [(c_h, .inr (0, [.ref c_kinds_a, .ref c_seating_a, .ref c_knows_a, .ref c_seals_a, .ref c_telling_a, .int c_persons, .int c_wax, .int c_week, .int c_day, .int c_draw]))]) (hS : va_S A H0 H locs)
    (hret : ∀ (H1 : Heap) (locs1 : List Loc) (ls1 : Array Slot) (pc1 : Nat), decode cX0_drawHeat pc1 = .ok (.ireturn, 1) → va_P D vwCl [(c_h, .inr (0, [.ref c_kinds_a, .ref c_seating_a, .ref c_knows_a, .ref c_seals_a, .ref c_telling_a, .int c_persons, .int c_wax, .int c_week, .int c_day, .int w_c_draw]))] H1 → va_D A [(c_h, .inr (0, [.ref c_kinds_a, .ref c_seating_a, .ref c_knows_a, .ref c_seals_a, .ref c_telling_a, .int c_persons, .int c_wax, .int c_week, .int c_day, .int w_c_draw]))] → va_S A H0 H1 locs1 → W p l e R s m args below meth c H1 locs1 cells slots Q (F0 m pc1 ls1 [.int r0])) : W p l e R s m args below meth c H locs cells slots Q (F0 m 0 ls []) := by
  have hf_35 := hts (.fieldLink RX0 35 "SealedLips$Court" "draw" "I") (by decide +kernel)
  have hin_X0 : ∀ w ∈ wsX00, w ∈ wsX0_drawHeat := by decide +kernel
  unfold fnX0_drawHeat at hM
  refine lv_aload_n hx hb dX0_drawHeat_0 rfl (lv_at hl 0 rfl) ?_
  refine lv_aload_n hx hb dX0_drawHeat_1 rfl (lv_at hl 0 rfl) ?_
  refine va_get (D := D) (ci := 0) (v := .int c_draw) (C := RX0) (T := TX0) (N := 10) hx hb hts hin_X0 hown hK hP 0 rfl rfl 9 (by decide) hf_35 (fun _ h9 => h9) rfl dX0_drawHeat_2 ?_
  refine lv_ldc (v := 1103515245) hx hb hown (hts (.constant RX0 85 (1103515245)) (by decide +kernel)) dX0_drawHeat_5 ?_
  refine lv_imul hx hb dX0_drawHeat_7 ?_
  refine lv_sipush (v := 12345) hx hb dX0_drawHeat_8 (by decide) ?_
  refine lv_iadd hx hb dX0_drawHeat_11 ?_
  refine lv_ldc (v := 2147483647) hx hb hown (hts (.constant RX0 86 (2147483647)) (by decide +kernel)) dX0_drawHeat_12 ?_
  refine lv_iand hx hb dX0_drawHeat_14 ?_
  refine va_put (D := D) (ci := 0) (v := .int (((c_draw * (1103515245 : Int32)) + (12345 : Int32)) &&& (2147483647 : Int32))) (ty := .int) (C := RX0) (T := TX0) (N := 10) hx hb hts hin_X0 tyX0 tyX0_ok nmX0 hown hK hP hD hS 0 rfl rfl 9 (by decide) hf_35 (fun _ h9 => h9) rfl (tyX0_ok 9 (by decide)) rfl rfl (Nat.le_of_ble_eq_true rfl) dX0_drawHeat_15 (fun H locs hP hD hS => ?_)
  have hP : va_P D vwCl [(c_h, .inr (0, [.ref c_kinds_a, .ref c_seating_a, .ref c_knows_a, .ref c_seals_a, .ref c_telling_a, .int c_persons, .int c_wax, .int c_week, .int c_day, .int (((c_draw * (1103515245 : Int32)) + (12345 : Int32)) &&& (2147483647 : Int32))]))] H := hP
  have hD : va_D A [(c_h, .inr (0, [.ref c_kinds_a, .ref c_seating_a, .ref c_knows_a, .ref c_seals_a, .ref c_telling_a, .int c_persons, .int c_wax, .int c_week, .int c_day, .int (((c_draw * (1103515245 : Int32)) + (12345 : Int32)) &&& (2147483647 : Int32))]))] := hD
  refine lv_aload_n hx hb dX0_drawHeat_18 rfl (lv_at hl 0 rfl) ?_
  refine va_get (D := D) (ci := 0) (v := .int (((c_draw * (1103515245 : Int32)) + (12345 : Int32)) &&& (2147483647 : Int32))) (C := RX0) (T := TX0) (N := 10) hx hb hts hin_X0 hown hK hP 0 rfl rfl 9 (by decide) hf_35 (fun _ h9 => h9) rfl dX0_drawHeat_19 ?_
  refine lv_ldc (v := 65536) hx hb hown (hts (.constant RX0 87 (65536)) (by decide +kernel)) dX0_drawHeat_22 ?_
  refine lv_idiv hx hb dX0_drawHeat_24 (by decide) ?_
  refine lv_bipush (v := 10) hx hb dX0_drawHeat_25 (by decide) ?_
  refine lv_irem hx hb dX0_drawHeat_27 (by decide) ?_
  obtain ⟨rfl, rfl⟩ := sx_o2 hM
  exact hret _ _ _ _ dX0_drawHeat_28 (hP.sub [0] rfl) (hD.sub [0] (by decide) rfl) hS
set_option maxHeartbeats 4000000 in
set_option maxRecDepth 100000 in
theorem mtX0_drawHeat (l : Launch) (D : va_G) (cI cJ cS : ClassId) (sz : Nat) (c_h c_kinds_a c_seating_a c_knows_a c_seals_a c_telling_a : Nat) (c_persons : Int32) (c_wax : Int32) (c_week : Int32) (c_day : Int32) (c_draw : Int32) (F : Nat) (r0 : Int32) (w_c_draw : Int32) (hM : fnX0_drawHeat F c_draw = some (r0, w_c_draw)) : sx_MI l yX0_drawHeat wsX0_drawHeat ({ frames := 0, cells := 0, slots := 0, locals := 0 }) D (sx_T cI cJ cS) sz [.ref c_h] [(c_h, .inr (0, [.ref c_kinds_a, .ref c_seating_a, .ref c_knows_a, .ref c_seals_a, .ref c_telling_a, .int c_persons, .int c_wax, .int c_week, .int c_day, .int c_draw]))] r0 [(c_h, .inr (0, [.ref c_kinds_a, .ref c_seating_a, .ref c_knows_a, .ref c_seals_a, .ref c_telling_a, .int c_persons, .int c_wax, .int c_week, .int c_day, .int w_c_draw]))] := by
  refine Met.ofW (cc := cX0_drawHeat) (maxL := 1) (ret := (some .int)) (by decide) rfl ?_
  intro p e s m args below meth c s₁ B hml hv
  obtain ⟨rfl, hsz, hN, hP, hK, hD0⟩ := hv
  subst hsz
  have hl := lv_entry ([.ref c_h]) (n := 1) (Nat.le_of_ble_eq_true rfl)
  rw [lg_entry_eq]
  generalize (lg_sl ([.ref c_h]) ++ List.replicate (1 - (lg_sl ([.ref c_h])).length) Slot.unset).toArray = ls at hl ⊢
  exact kwX0_drawHeat B.exec B.bytes hml (findClass_of_methodNamed B.named) (atoms_spec (ws := wsX0_drawHeat) B.pre) hN hK (fun q h => Or.inr h) (by decide) (by decide) ⟨Nat.zero_le _, Nat.zero_le _⟩ c_h c_kinds_a c_seating_a c_knows_a c_seals_a c_telling_a c_persons c_wax c_week c_day c_draw F r0 w_c_draw hM _ _ _ hl hP hD0.self va_S.rf (fun H1 locs1 ls1 pc1 hd hP hD hS => W.iret (v := r0) B.exec B.bytes B.returns (fun t ht hW => ⟨⟨r0, (), rfl, rfl, by rw [ht]; exact hP, hD⟩, hS.F ht⟩) hS.2.2 hd)

def fnX4_weakening (F : Nat) (a1 : Int32) (a2 : Int32) (a3 : Int32) : Option (Int32) :=
  (if a1 = (0 : Int32) then (some ((a2 / (2 : Int32)))) else (if a1 = (1 : Int32) then (some (((a2 / (2 : Int32)) + (1 : Int32)))) else (if a1 = (2 : Int32) then (some ((0 : Int32))) else (if a1 = (3 : Int32) then (if (a3 - a3 / (3 : Int32) * (3 : Int32)) = 0 then (some (((2 : Int32) * ((a2 / (2 : Int32)) + (1 : Int32))))) else (some (((a2 / (2 : Int32)) + (1 : Int32))))) else (some ((0 : Int32)))))))
set_option maxHeartbeats 4000000 in
set_option maxRecDepth 100000 in
theorem kwX4_weakening {p : Program} {l : Launch} {e : Env} {R : Room} {s : State} {m : MethodId} {args : Array Value} {below : List Frame} {meth : Method} {c : Code} {cells slots : Nat} {Q : State → Prop} {A : Nat → Prop} {H0 : Heap} {D : va_G} {cI cJ cS : ClassId} (hx : p.tables.exec = Jvm.exec) (hb : c.code = cX4_weakening) (hml : c.maxLocals = 3) (hown : s.vm.findClass RX4 = some m.cls) (hts : ∀ w ∈ wsX4_weakening, w.before args s = true) (hN : sx_N s) (hK : va_K D vwCl (sx_T cI cJ cS) s) (hA : ∀ q, H0.size ≤ q → A q) (hRf : 0 ≤ R.frames) (hRl : 0 ≤ R.locals) (hRc : cells ≤ R.cells ∧ slots ≤ R.slots) (a1 : Int32) (a2 : Int32) (a3 : Int32) (F : Nat) (r0 : Int32) (hM : fnX4_weakening F a1 a2 a3 = some r0) (H : Heap) (locs : List Loc) (ls : Array Slot) (hl : lv_has ls 3 [(0, .int a1), (1, .int a2), (2, .int a3)]) (hP : va_P D vwCl [] H) (hD : va_D A []) (hS : va_S A H0 H locs)
    (hret : ∀ (H1 : Heap) (locs1 : List Loc) (ls1 : Array Slot) (pc1 : Nat), decode cX4_weakening pc1 = .ok (.ireturn, 1) → va_P D vwCl [] H1 → va_D A [] → va_S A H0 H1 locs1 → W p l e R s m args below meth c H1 locs1 cells slots Q (F0 m pc1 ls1 [.int r0])) : W p l e R s m args below meth c H locs cells slots Q (F0 m 0 ls []) := by
  unfold fnX4_weakening at hM
  refine lv_iload_n hx hb dX4_weakening_0 rfl (lv_at hl 0 rfl) ?_
  by_cases c1 : a1 = (0 : Int32)
  · replace hM := sx_ift c1 hM
    refine lv_tableIn (off := 31) (tgt := 32) hx hb dX4_weakening_1 (by rw [c1]; decide) (by rw [c1]; decide) (by rw [c1]; decide) (by decide) ?_
    refine lv_iload_n hx hb dX4_weakening_32 rfl (lv_at hl 1 rfl) ?_
    refine lv_iconst (v := 2) hx hb dX4_weakening_33 (by decide) ?_
    refine lv_idiv hx hb dX4_weakening_34 (by decide) ?_
    obtain rfl := sx_o1 hM
    exact hret _ _ _ _ dX4_weakening_35 (hP.sub [] rfl) (hD.sub [] (by decide) rfl) hS
  · replace hM := sx_iff c1 hM
    have c1t : ¬ a1.toInt = 0 := fun h => c1 (Int32.toInt_inj.mp (h.trans (by decide)))
    by_cases c2 : a1 = (1 : Int32)
    · replace hM := sx_ift c2 hM
      refine lv_tableIn (off := 35) (tgt := 36) hx hb dX4_weakening_1 (by rw [c2]; decide) (by rw [c2]; decide) (by rw [c2]; decide) (by decide) ?_
      refine lv_iload_n hx hb dX4_weakening_36 rfl (lv_at hl 1 rfl) ?_
      refine lv_iconst (v := 2) hx hb dX4_weakening_37 (by decide) ?_
      refine lv_idiv hx hb dX4_weakening_38 (by decide) ?_
      refine lv_iconst (v := 1) hx hb dX4_weakening_39 (by decide) ?_
      refine lv_iadd hx hb dX4_weakening_40 ?_
      obtain rfl := sx_o1 hM
      exact hret _ _ _ _ dX4_weakening_41 (hP.sub [] rfl) (hD.sub [] (by decide) rfl) hS
    · replace hM := sx_iff c2 hM
      have c2t : ¬ a1.toInt = 1 := fun h => c2 (Int32.toInt_inj.mp (h.trans (by decide)))
      by_cases c3 : a1 = (2 : Int32)
      · replace hM := sx_ift c3 hM
        refine lv_tableIn (off := 63) (tgt := 64) hx hb dX4_weakening_1 (by rw [c3]; decide) (by rw [c3]; decide) (by rw [c3]; decide) (by decide) ?_
        refine lv_iconst (v := 0) hx hb dX4_weakening_64 (by decide) ?_
        obtain rfl := sx_o1 hM
        exact hret _ _ _ _ dX4_weakening_65 (hP.sub [] rfl) (hD.sub [] (by decide) rfl) hS
      · replace hM := sx_iff c3 hM
        have c3t : ¬ a1.toInt = 2 := fun h => c3 (Int32.toInt_inj.mp (h.trans (by decide)))
        by_cases c4 : a1 = (3 : Int32)
        · replace hM := sx_ift c4 hM
          refine lv_tableIn (off := 41) (tgt := 42) hx hb dX4_weakening_1 (by rw [c4]; decide) (by rw [c4]; decide) (by rw [c4]; decide) (by decide) ?_
          refine lv_iload_n hx hb dX4_weakening_42 rfl (lv_at hl 2 rfl) ?_
          refine lv_iconst (v := 3) hx hb dX4_weakening_43 (by decide) ?_
          refine lv_irem hx hb dX4_weakening_44 (by decide) ?_
          refine lv_if_ne (tgt := 58) hx hb dX4_weakening_45 (by decide) (fun c5 => ?_) (fun c5 => ?_)
          · replace hM := sx_iff c5 hM
            refine lv_iload_n hx hb dX4_weakening_58 rfl (lv_at hl 1 rfl) ?_
            refine lv_iconst (v := 2) hx hb dX4_weakening_59 (by decide) ?_
            refine lv_idiv hx hb dX4_weakening_60 (by decide) ?_
            refine lv_iconst (v := 1) hx hb dX4_weakening_61 (by decide) ?_
            refine lv_iadd hx hb dX4_weakening_62 ?_
            obtain rfl := sx_o1 hM
            exact hret _ _ _ _ dX4_weakening_63 (hP.sub [] rfl) (hD.sub [] (by decide) rfl) hS
          · replace hM := sx_ift c5 hM
            refine lv_iconst (v := 2) hx hb dX4_weakening_48 (by decide) ?_
            refine lv_iload_n hx hb dX4_weakening_49 rfl (lv_at hl 1 rfl) ?_
            refine lv_iconst (v := 2) hx hb dX4_weakening_50 (by decide) ?_
            refine lv_idiv hx hb dX4_weakening_51 (by decide) ?_
            refine lv_iconst (v := 1) hx hb dX4_weakening_52 (by decide) ?_
            refine lv_iadd hx hb dX4_weakening_53 ?_
            refine lv_imul hx hb dX4_weakening_54 ?_
            refine lv_goto (tgt := 63) hx hb dX4_weakening_55 (by decide) ?_
            obtain rfl := sx_o1 hM
            exact hret _ _ _ _ dX4_weakening_63 (hP.sub [] rfl) (hD.sub [] (by decide) rfl) hS
        · replace hM := sx_iff c4 hM
          have c4t : ¬ a1.toInt = 3 := fun h => c4 (Int32.toInt_inj.mp (h.trans (by decide)))
          refine lv_tableOut (tgt := 64) hx hb dX4_weakening_1 (by omega) (by decide) ?_
          refine lv_iconst (v := 0) hx hb dX4_weakening_64 (by decide) ?_
          obtain rfl := sx_o1 hM
          exact hret _ _ _ _ dX4_weakening_65 (hP.sub [] rfl) (hD.sub [] (by decide) rfl) hS
set_option maxHeartbeats 4000000 in
set_option maxRecDepth 100000 in
theorem mtX4_weakening (l : Launch) (D : va_G) (cI cJ cS : ClassId) (sz : Nat) (a1 : Int32) (a2 : Int32) (a3 : Int32) (F : Nat) (r0 : Int32) (hM : fnX4_weakening F a1 a2 a3 = some r0) : sx_MI l yX4_weakening wsX4_weakening ({ frames := 0, cells := 0, slots := 0, locals := 0 }) D (sx_T cI cJ cS) sz [.int a1, .int a2, .int a3] [] r0 [] := by
  refine Met.ofW (cc := cX4_weakening) (maxL := 3) (ret := (some .int)) (by decide) rfl ?_
  intro p e s m args below meth c s₁ B hml hv
  obtain ⟨rfl, hsz, hN, hP, hK, hD0⟩ := hv
  subst hsz
  have hl := lv_entry ([.int a1, .int a2, .int a3]) (n := 3) (Nat.le_of_ble_eq_true rfl)
  rw [lg_entry_eq]
  generalize (lg_sl ([.int a1, .int a2, .int a3]) ++ List.replicate (3 - (lg_sl ([.int a1, .int a2, .int a3])).length) Slot.unset).toArray = ls at hl ⊢
  exact kwX4_weakening B.exec B.bytes hml (findClass_of_methodNamed B.named) (atoms_spec (ws := wsX4_weakening) B.pre) hN hK (fun q h => Or.inr h) (by decide) (by decide) ⟨Nat.zero_le _, Nat.zero_le _⟩ a1 a2 a3 F r0 hM _ _ _ hl hP hD0.self va_S.rf (fun H1 locs1 ls1 pc1 hd hP hD hS => W.iret (v := r0) B.exec B.bytes B.returns (fun t ht hW => ⟨⟨r0, (), rfl, rfl, by rw [ht]; exact hP, hD⟩, hS.F ht⟩) hS.2.2 hd)

def fnX4_weaker (F : Nat) (a1 : Int64) (a2 : Int32) : Option (Int64) :=
  sx_nm ((a1 ||| (-9187201950435737472 : Int64)) - ((72340172838076673 : Int64) * (a2).toInt64)) (fun (v1 : Int64) => sx_nm (((v1 &&& (-9187201950435737472 : Int64))).toUInt64 >>> (((7 : Int32)).toInt64.toUInt64 &&& Int64.toUInt64 63)).toInt64 (fun (v2 : Int64) => (some ((v1 &&& (v2 * (127 : Int64)))))))
set_option maxHeartbeats 4000000 in
set_option maxRecDepth 100000 in
theorem kwX4_weaker {p : Program} {l : Launch} {e : Env} {R : Room} {s : State} {m : MethodId} {args : Array Value} {below : List Frame} {meth : Method} {c : Code} {cells slots : Nat} {Q : State → Prop} {A : Nat → Prop} {H0 : Heap} {D : va_G} {cI cJ cS : ClassId} (hx : p.tables.exec = Jvm.exec) (hb : c.code = cX4_weaker) (hml : c.maxLocals = 7) (hown : s.vm.findClass RX4 = some m.cls) (hts : ∀ w ∈ wsX4_weaker, w.before args s = true) (hN : sx_N s) (hK : va_K D vwCl (sx_T cI cJ cS) s) (hA : ∀ q, H0.size ≤ q → A q) (hRf : 0 ≤ R.frames) (hRl : 0 ≤ R.locals) (hRc : cells ≤ R.cells ∧ slots ≤ R.slots) (a1 : Int64) (a2 : Int32) (F : Nat) (r0 : Int64) (hM : fnX4_weaker F a1 a2 = some r0) (H : Heap) (locs : List Loc) (ls : Array Slot) (hl : lv_has ls 7 [(0, .long a1), (2, .int a2)]) (hP : va_P D vwCl [] H) (hD : va_D A []) (hS : va_S A H0 H locs)
    (hret : ∀ (H1 : Heap) (locs1 : List Loc) (ls1 : Array Slot) (pc1 : Nat), decode cX4_weaker pc1 = .ok (.lreturn, 1) → va_P D vwCl [] H1 → va_D A [] → va_S A H0 H1 locs1 → W p l e R s m args below meth c H1 locs1 cells slots Q (F0 m pc1 ls1 [.long r0])) : W p l e R s m args below meth c H locs cells slots Q (F0 m 0 ls []) := by
  unfold fnX4_weaker at hM
  refine lv_lload_n hx hb dX4_weaker_0 rfl (lv_at hl 0 rfl) ?_
  refine lv_ldc2 (v := -9187201950435737472) hx hb hown (hts (.constantLong RX4 265 (-9187201950435737472)) (by decide +kernel)) dX4_weaker_1 ?_
  refine lv_lor hx hb dX4_weaker_4 ?_
  refine lv_ldc2 (v := 72340172838076673) hx hb hown (hts (.constantLong RX4 267 (72340172838076673)) (by decide +kernel)) dX4_weaker_5 ?_
  refine lv_iload_n hx hb dX4_weaker_8 rfl (lv_at hl 1 rfl) ?_
  refine lv_i2l hx hb dX4_weaker_9 rfl ?_
  refine lv_lmul hx hb dX4_weaker_10 ?_
  refine lv_lsub hx hb dX4_weaker_11 ?_
  obtain ⟨v1, ev1, hM⟩ := sx_nm_s hM
  refine W.eq (g2 := F0 m 12 ls (.long v1 :: [])) (by subst ev1; rfl) ?_
  refine lv_lstore_n (lv' := [(3, .long v1), (0, .long a1), (2, .int a2)]) hx hb dX4_weaker_12 rfl hl (by decide) rfl (fun ls hl => ?_)
  refine lv_lload_n hx hb dX4_weaker_13 rfl (lv_at hl 0 rfl) ?_
  refine lv_ldc2 (v := -9187201950435737472) hx hb hown (hts (.constantLong RX4 265 (-9187201950435737472)) (by decide +kernel)) dX4_weaker_14 ?_
  refine lv_land hx hb dX4_weaker_17 ?_
  refine lv_bipush (v := 7) hx hb dX4_weaker_18 (by decide) ?_
  refine lv_lushr hx hb dX4_weaker_20 rfl ?_
  obtain ⟨v2, ev2, hM⟩ := sx_nm_s hM
  refine W.eq (g2 := F0 m 21 ls (.long v2 :: [])) (by subst ev2; rfl) ?_
  refine lv_lstore (lv' := [(5, .long v2), (3, .long v1), (0, .long a1), (2, .int a2)]) hx hb dX4_weaker_21 hl (by decide) rfl (fun ls hl => ?_)
  refine lv_lload_n hx hb dX4_weaker_23 rfl (lv_at hl 1 rfl) ?_
  refine lv_lload hx hb dX4_weaker_24 (lv_at hl 0 rfl) ?_
  refine lv_ldc2 (v := 127) hx hb hown (hts (.constantLong RX4 269 (127)) (by decide +kernel)) dX4_weaker_26 ?_
  refine lv_lmul hx hb dX4_weaker_29 ?_
  refine lv_land hx hb dX4_weaker_30 ?_
  obtain rfl := sx_o1 hM
  exact hret _ _ _ _ dX4_weaker_31 (hP.sub [] rfl) (hD.sub [] (by decide) rfl) hS
set_option maxHeartbeats 4000000 in
set_option maxRecDepth 100000 in
theorem mtX4_weaker (l : Launch) (D : va_G) (cI cJ cS : ClassId) (sz : Nat) (a1 : Int64) (a2 : Int32) (F : Nat) (r0 : Int64) (hM : fnX4_weaker F a1 a2 = some r0) : sx_ML l yX4_weaker wsX4_weaker ({ frames := 0, cells := 0, slots := 0, locals := 0 }) D (sx_T cI cJ cS) sz [.long a1, .int a2] [] r0 [] := by
  refine Met.ofW (cc := cX4_weaker) (maxL := 7) (ret := (some .long)) (by decide) rfl ?_
  intro p e s m args below meth c s₁ B hml hv
  obtain ⟨rfl, hsz, hN, hP, hK, hD0⟩ := hv
  subst hsz
  have hl := lv_entry ([.long a1, .int a2]) (n := 7) (Nat.le_of_ble_eq_true rfl)
  rw [lg_entry_eq]
  generalize (lg_sl ([.long a1, .int a2]) ++ List.replicate (7 - (lg_sl ([.long a1, .int a2])).length) Slot.unset).toArray = ls at hl ⊢
  exact kwX4_weaker B.exec B.bytes hml (findClass_of_methodNamed B.named) (atoms_spec (ws := wsX4_weaker) B.pre) hN hK (fun q h => Or.inr h) (by decide) (by decide) ⟨Nat.zero_le _, Nat.zero_le _⟩ a1 a2 F r0 hM _ _ _ hl hP hD0.self va_S.rf (fun H1 locs1 ls1 pc1 hd hP hD hS => W.lret (v := r0) B.exec B.bytes B.returns (fun t ht hW => ⟨⟨r0, (), rfl, rfl, by rw [ht]; exact hP, hD⟩, hS.F ht⟩) hS.2.2 hd)

def fnX4_tells (F : Nat) (a1 : Int32) : Option (Int32) :=
  (if a1 = (2 : Int32) then (some ((0 : Int32))) else (if a1 = (4 : Int32) then (some ((0 : Int32))) else (some ((1 : Int32)))))
set_option maxHeartbeats 4000000 in
set_option maxRecDepth 100000 in
theorem kwX4_tells {p : Program} {l : Launch} {e : Env} {R : Room} {s : State} {m : MethodId} {args : Array Value} {below : List Frame} {meth : Method} {c : Code} {cells slots : Nat} {Q : State → Prop} {A : Nat → Prop} {H0 : Heap} {D : va_G} {cI cJ cS : ClassId} (hx : p.tables.exec = Jvm.exec) (hb : c.code = cX4_tells) (hml : c.maxLocals = 1) (hown : s.vm.findClass RX4 = some m.cls) (hts : ∀ w ∈ wsX4_tells, w.before args s = true) (hN : sx_N s) (hK : va_K D vwCl (sx_T cI cJ cS) s) (hA : ∀ q, H0.size ≤ q → A q) (hRf : 0 ≤ R.frames) (hRl : 0 ≤ R.locals) (hRc : cells ≤ R.cells ∧ slots ≤ R.slots) (a1 : Int32) (F : Nat) (r0 : Int32) (hM : fnX4_tells F a1 = some r0) (H : Heap) (locs : List Loc) (ls : Array Slot) (hl : lv_has ls 1 [(0, .int a1)]) (hP : va_P D vwCl [] H) (hD : va_D A []) (hS : va_S A H0 H locs)
    (hret : ∀ (H1 : Heap) (locs1 : List Loc) (ls1 : Array Slot) (pc1 : Nat), decode cX4_tells pc1 = .ok (.ireturn, 1) → narrow .boolean (.int r0) = .int r0 → va_P D vwCl [] H1 → va_D A [] → va_S A H0 H1 locs1 → W p l e R s m args below meth c H1 locs1 cells slots Q (F0 m pc1 ls1 [.int r0])) : W p l e R s m args below meth c H locs cells slots Q (F0 m 0 ls []) := by
  unfold fnX4_tells at hM
  refine lv_iload_n hx hb dX4_tells_0 rfl (lv_at hl 0 rfl) ?_
  refine lv_iconst (v := 2) hx hb dX4_tells_1 (by decide) ?_
  refine lv_icmp_eq (tgt := 14) hx hb dX4_tells_2 (by decide) (fun c1 => ?_) (fun c1 => ?_)
  · replace hM := sx_ift c1 hM
    refine lv_iconst (v := 0) hx hb dX4_tells_14 (by decide) ?_
    obtain rfl := sx_o1 hM
    exact hret _ _ _ _ dX4_tells_15 rfl (hP.sub [] rfl) (hD.sub [] (by decide) rfl) hS
  · replace hM := sx_iff c1 hM
    refine lv_iload_n hx hb dX4_tells_5 rfl (lv_at hl 0 rfl) ?_
    refine lv_iconst (v := 4) hx hb dX4_tells_6 (by decide) ?_
    refine lv_icmp_eq (tgt := 14) hx hb dX4_tells_7 (by decide) (fun c2 => ?_) (fun c2 => ?_)
    · replace hM := sx_ift c2 hM
      refine lv_iconst (v := 0) hx hb dX4_tells_14 (by decide) ?_
      obtain rfl := sx_o1 hM
      exact hret _ _ _ _ dX4_tells_15 rfl (hP.sub [] rfl) (hD.sub [] (by decide) rfl) hS
    · replace hM := sx_iff c2 hM
      refine lv_iconst (v := 1) hx hb dX4_tells_10 (by decide) ?_
      refine lv_goto (tgt := 15) hx hb dX4_tells_11 (by decide) ?_
      obtain rfl := sx_o1 hM
      exact hret _ _ _ _ dX4_tells_15 rfl (hP.sub [] rfl) (hD.sub [] (by decide) rfl) hS
set_option maxHeartbeats 4000000 in
set_option maxRecDepth 100000 in
theorem mtX4_tells (l : Launch) (D : va_G) (cI cJ cS : ClassId) (sz : Nat) (a1 : Int32) (F : Nat) (r0 : Int32) (hM : fnX4_tells F a1 = some r0) : sx_MI l yX4_tells wsX4_tells ({ frames := 0, cells := 0, slots := 0, locals := 0 }) D (sx_T cI cJ cS) sz [.int a1] [] r0 [] := by
  refine Met.ofW (cc := cX4_tells) (maxL := 1) (ret := (some .boolean)) (by decide) rfl ?_
  intro p e s m args below meth c s₁ B hml hv
  obtain ⟨rfl, hsz, hN, hP, hK, hD0⟩ := hv
  subst hsz
  have hl := lv_entry ([.int a1]) (n := 1) (Nat.le_of_ble_eq_true rfl)
  rw [lg_entry_eq]
  generalize (lg_sl ([.int a1]) ++ List.replicate (1 - (lg_sl ([.int a1])).length) Slot.unset).toArray = ls at hl ⊢
  exact kwX4_tells B.exec B.bytes hml (findClass_of_methodNamed B.named) (atoms_spec (ws := wsX4_tells) B.pre) hN hK (fun q h => Or.inr h) (by decide) (by decide) ⟨Nat.zero_le _, Nat.zero_le _⟩ a1 F r0 hM _ _ _ hl hP hD0.self va_S.rf (fun H1 locs1 ls1 pc1 hd hz hP hD hS => W.zret (v := r0) B.exec B.bytes B.returns hz (fun t ht hW => ⟨⟨r0, (), rfl, rfl, by rw [ht]; exact hP, hD⟩, hS.F ht⟩) hS.2.2 hd)

def fnX4_hears (F : Nat) (a1 : Int32) : Option (Int32) :=
  (if a1 = (4 : Int32) then (some ((0 : Int32))) else (some ((1 : Int32))))
set_option maxHeartbeats 4000000 in
set_option maxRecDepth 100000 in
theorem kwX4_hears {p : Program} {l : Launch} {e : Env} {R : Room} {s : State} {m : MethodId} {args : Array Value} {below : List Frame} {meth : Method} {c : Code} {cells slots : Nat} {Q : State → Prop} {A : Nat → Prop} {H0 : Heap} {D : va_G} {cI cJ cS : ClassId} (hx : p.tables.exec = Jvm.exec) (hb : c.code = cX4_hears) (hml : c.maxLocals = 1) (hown : s.vm.findClass RX4 = some m.cls) (hts : ∀ w ∈ wsX4_hears, w.before args s = true) (hN : sx_N s) (hK : va_K D vwCl (sx_T cI cJ cS) s) (hA : ∀ q, H0.size ≤ q → A q) (hRf : 0 ≤ R.frames) (hRl : 0 ≤ R.locals) (hRc : cells ≤ R.cells ∧ slots ≤ R.slots) (a1 : Int32) (F : Nat) (r0 : Int32) (hM : fnX4_hears F a1 = some r0) (H : Heap) (locs : List Loc) (ls : Array Slot) (hl : lv_has ls 1 [(0, .int a1)]) (hP : va_P D vwCl [] H) (hD : va_D A []) (hS : va_S A H0 H locs)
    (hret : ∀ (H1 : Heap) (locs1 : List Loc) (ls1 : Array Slot) (pc1 : Nat), decode cX4_hears pc1 = .ok (.ireturn, 1) → narrow .boolean (.int r0) = .int r0 → va_P D vwCl [] H1 → va_D A [] → va_S A H0 H1 locs1 → W p l e R s m args below meth c H1 locs1 cells slots Q (F0 m pc1 ls1 [.int r0])) : W p l e R s m args below meth c H locs cells slots Q (F0 m 0 ls []) := by
  unfold fnX4_hears at hM
  refine lv_iload_n hx hb dX4_hears_0 rfl (lv_at hl 0 rfl) ?_
  refine lv_iconst (v := 4) hx hb dX4_hears_1 (by decide) ?_
  refine lv_icmp_eq (tgt := 9) hx hb dX4_hears_2 (by decide) (fun c1 => ?_) (fun c1 => ?_)
  · replace hM := sx_ift c1 hM
    refine lv_iconst (v := 0) hx hb dX4_hears_9 (by decide) ?_
    obtain rfl := sx_o1 hM
    exact hret _ _ _ _ dX4_hears_10 rfl (hP.sub [] rfl) (hD.sub [] (by decide) rfl) hS
  · replace hM := sx_iff c1 hM
    refine lv_iconst (v := 1) hx hb dX4_hears_5 (by decide) ?_
    refine lv_goto (tgt := 10) hx hb dX4_hears_6 (by decide) ?_
    obtain rfl := sx_o1 hM
    exact hret _ _ _ _ dX4_hears_10 rfl (hP.sub [] rfl) (hD.sub [] (by decide) rfl) hS
set_option maxHeartbeats 4000000 in
set_option maxRecDepth 100000 in
theorem mtX4_hears (l : Launch) (D : va_G) (cI cJ cS : ClassId) (sz : Nat) (a1 : Int32) (F : Nat) (r0 : Int32) (hM : fnX4_hears F a1 = some r0) : sx_MI l yX4_hears wsX4_hears ({ frames := 0, cells := 0, slots := 0, locals := 0 }) D (sx_T cI cJ cS) sz [.int a1] [] r0 [] := by
  refine Met.ofW (cc := cX4_hears) (maxL := 1) (ret := (some .boolean)) (by decide) rfl ?_
  intro p e s m args below meth c s₁ B hml hv
  obtain ⟨rfl, hsz, hN, hP, hK, hD0⟩ := hv
  subst hsz
  have hl := lv_entry ([.int a1]) (n := 1) (Nat.le_of_ble_eq_true rfl)
  rw [lg_entry_eq]
  generalize (lg_sl ([.int a1]) ++ List.replicate (1 - (lg_sl ([.int a1])).length) Slot.unset).toArray = ls at hl ⊢
  exact kwX4_hears B.exec B.bytes hml (findClass_of_methodNamed B.named) (atoms_spec (ws := wsX4_hears) B.pre) hN hK (fun q h => Or.inr h) (by decide) (by decide) ⟨Nat.zero_le _, Nat.zero_le _⟩ a1 F r0 hM _ _ _ hl hP hD0.self va_S.rf (fun H1 locs1 ls1 pc1 hd hz hP hD hS => W.zret (v := r0) B.exec B.bytes B.returns hz (fun t ht hW => ⟨⟨r0, (), rfl, rfl, by rw [ht]; exact hP, hD⟩, hS.F ht⟩) hS.2.2 hd)

def bdX0_hearAll_4 (F : Nat) (c_kinds : Nat → Int32) (c_seating : Nat → Int32) (c_telling : Nat → Int64) (c_persons : Int32) (r_ : Int32 → Int32 → (Nat → Int64) → Option (Int32 × (Nat → Int64))) (x1_ : Int32) (x2_ : Int32) (c_knows : Nat → Int64) : Option (Int32 × (Nat → Int64)) :=
  (if c_persons ≤ x2_ then (some (x1_, c_knows)) else sx_gd (sx_ib x2_ 6) (sx_nm (c_seating (x2_).toNatClampNeg) (fun (v6 : Int32) => sx_c1 (fnX0_around F c_persons (x2_ + (1 : Int32))) (fun (r7 : Int32) => sx_gd (sx_ib r7 6) (sx_gd (sx_ib (c_seating (r7).toNatClampNeg) 6) (sx_c1 (fnX0_around F c_persons ((x2_ + c_persons) - (1 : Int32))) (fun (r11 : Int32) => sx_gd (sx_ib r11 6) (sx_gd (sx_ib (c_seating (r11).toNatClampNeg) 6) (sx_nm ((c_telling ((c_seating (r7).toNatClampNeg)).toNatClampNeg) ||| (c_telling ((c_seating (r11).toNatClampNeg)).toNatClampNeg)) (fun (v15 : Int64) => sx_gd (sx_ib v6 6) (sx_nm (v15 &&& ((c_knows (v6).toNatClampNeg) ^^^ (-1 : Int64))) (fun (v17 : Int64) => sx_lt (fun (x18 : Int32) (z19 : Nat → Int64) => sx_nm (x2_ + (1 : Int32)) (fun (v20 : Int32) => (r_ x18 v20 z19))) (fun (k_114 : Int32 → (Nat → Int64) → Option (Int32 × (Nat → Int64))) => (if (lg_cmp v17 (0 : Int64)) = 0 then (k_114 x1_ c_knows) else sx_gd (sx_ib v6 6) (sx_c1 (fnX4_hears F (c_kinds (v6).toNatClampNeg)) (fun (r23 : Int32) => (if r23 = 0 then (k_114 x1_ c_knows) else sx_gd (sx_ib v6 6) (sx_gd (sx_ib v6 6) (sx_c1 (fnJ13_bitCount_95d88 F v17) (fun (r28 : Int32) => sx_nm (x1_ + r28) (fun (v30 : Int32) => (k_114 v30 (vp_updL c_knows (v6).toNatClampNeg ((c_knows (v6).toNatClampNeg) ||| v17))))))))))))))))))))))))
def fnX0_hearAll (F : Nat) (c_kinds : Nat → Int32) (c_seating : Nat → Int32) (c_knows : Nat → Int64) (c_telling : Nat → Int64) (c_persons : Int32) : Option (Int32 × (Nat → Int64)) :=
  sx_lp3 (bdX0_hearAll_4 F c_kinds c_seating c_telling c_persons) F (0 : Int32) (0 : Int32) c_knows
set_option maxHeartbeats 4000000 in
set_option maxRecDepth 100000 in
theorem kwX0_hearAll {p : Program} {l : Launch} {e : Env} {R : Room} {s : State} {m : MethodId} {args : Array Value} {below : List Frame} {meth : Method} {c : Code} {cells slots : Nat} {Q : State → Prop} {A : Nat → Prop} {H0 : Heap} {D : va_G} {cI cJ cS : ClassId} (hx : p.tables.exec = Jvm.exec) (hb : c.code = cX0_hearAll) (hml : c.maxLocals = 8) (hown : s.vm.findClass RX0 = some m.cls) (hts : ∀ w ∈ wsX0_hearAll, w.before args s = true) (hN : sx_N s) (hK : va_K D vwCl (sx_T cI cJ cS) s) (hA : ∀ q, H0.size ≤ q → A q) (hRf : 1 ≤ R.frames) (hRl : 21 ≤ R.locals) (hRc : cells ≤ R.cells ∧ slots ≤ R.slots) (c_h c_kinds_a c_seating_a c_knows_a c_seals_a c_telling_a : Nat) (c_kinds : Nat → Int32) (c_seating : Nat → Int32) (c_knows : Nat → Int64) (c_telling : Nat → Int64) (c_persons : Int32) (c_wax : Int32) (c_week : Int32) (c_day : Int32) (c_draw : Int32) (F : Nat) (r0 : Int32) (w_c_knows : Nat → Int64) (hM : fnX0_hearAll F c_kinds c_seating c_knows c_telling c_persons = some (r0, w_c_knows)) (H : Heap) (locs : List Loc) (ls : Array Slot) (hl : lv_has ls 8 [(0, .ref c_h)]) (hP : va_P D vwCl [(c_h, .inr (0, [.ref c_kinds_a, .ref c_seating_a, .ref c_knows_a, .ref c_seals_a, .ref c_telling_a, .int c_persons, .int c_wax, .int c_week, .int c_day, .int c_draw])), (c_kinds_a, .inl (cI, 6, .inl c_kinds)), (c_seating_a, .inl (cI, 6, .inl c_seating)), (c_knows_a, .inl (cJ, 6, .inr (.inl c_knows))), (c_telling_a, .inl (cJ, 6, .inr (.inl c_telling)))] H) (hD : va_D A [(c_h, .inr (0, [.ref c_kinds_a, .ref c_seating_a, .ref c_knows_a, .ref c_seals_a, .ref c_telling_a, .int c_persons, .int c_wax, .int c_week, .int c_day, .int c_draw])), (c_kinds_a, .inl (cI, 6, .inl c_kinds)), (c_seating_a, .inl (cI, 6, .inl c_seating)), (c_knows_a, .inl (cJ, 6, .inr (.inl c_knows))), (c_telling_a, .inl (cJ, 6, .inr (.inl c_telling)))]) (hS : va_S A H0 H locs)
    (hret : ∀ (H1 : Heap) (locs1 : List Loc) (ls1 : Array Slot) (pc1 : Nat), decode cX0_hearAll pc1 = .ok (.ireturn, 1) → va_P D vwCl [(c_h, .inr (0, [.ref c_kinds_a, .ref c_seating_a, .ref c_knows_a, .ref c_seals_a, .ref c_telling_a, .int c_persons, .int c_wax, .int c_week, .int c_day, .int c_draw])), (c_kinds_a, .inl (cI, 6, .inl c_kinds)), (c_seating_a, .inl (cI, 6, .inl c_seating)), (c_knows_a, .inl (cJ, 6, .inr (.inl w_c_knows))), (c_telling_a, .inl (cJ, 6, .inr (.inl c_telling)))] H1 → va_D A [(c_h, .inr (0, [.ref c_kinds_a, .ref c_seating_a, .ref c_knows_a, .ref c_seals_a, .ref c_telling_a, .int c_persons, .int c_wax, .int c_week, .int c_day, .int c_draw])), (c_kinds_a, .inl (cI, 6, .inl c_kinds)), (c_seating_a, .inl (cI, 6, .inl c_seating)), (c_knows_a, .inl (cJ, 6, .inr (.inl w_c_knows))), (c_telling_a, .inl (cJ, 6, .inr (.inl c_telling)))] → va_S A H0 H1 locs1 → W p l e R s m args below meth c H1 locs1 cells slots Q (F0 m pc1 ls1 [.int r0])) : W p l e R s m args below meth c H locs cells slots Q (F0 m 0 ls []) := by
  have hf_9 := hts (.fieldLink RX0 9 "SealedLips$Court" "kinds" "[I") (by decide +kernel)
  have hf_15 := hts (.fieldLink RX0 15 "SealedLips$Court" "seating" "[I") (by decide +kernel)
  have hf_18 := hts (.fieldLink RX0 18 "SealedLips$Court" "knows" "[J") (by decide +kernel)
  have hf_25 := hts (.fieldLink RX0 25 "SealedLips$Court" "telling" "[J") (by decide +kernel)
  have hf_44 := hts (.fieldLink RX0 44 "SealedLips$Court" "persons" "I") (by decide +kernel)
  have hin_X0 : ∀ w ∈ wsX00, w ∈ wsX0_hearAll := by decide +kernel
  unfold fnX0_hearAll at hM
  refine lv_iconst (v := 0) hx hb dX0_hearAll_0 (by decide) ?_
  refine lv_istore_n (lv' := [(1, .int (0 : Int32)), (0, .ref c_h)]) hx hb dX0_hearAll_1 rfl hl (by decide) rfl (fun ls hl => ?_)
  refine lv_iconst (v := 0) hx hb dX0_hearAll_2 (by decide) ?_
  refine lv_istore_n (lv' := [(2, .int (0 : Int32)), (1, .int (0 : Int32)), (0, .ref c_h)]) hx hb dX0_hearAll_3 rfl hl (by decide) rfl (fun ls hl => ?_)
  have lp_4 : ∀ (n : Nat) (x1 : Int32) (x2 : Int32) (z3 : Nat → Int64) (H : Heap) (locs : List Loc) (ls : Array Slot), sx_lp3 (bdX0_hearAll_4 F c_kinds c_seating c_telling c_persons) n x1 x2 z3 = some (r0, w_c_knows) → lv_has ls 8 [(0, .ref c_h), (1, .int x1), (2, .int x2)] → va_P D vwCl [(c_h, .inr (0, [.ref c_kinds_a, .ref c_seating_a, .ref c_knows_a, .ref c_seals_a, .ref c_telling_a, .int c_persons, .int c_wax, .int c_week, .int c_day, .int c_draw])), (c_kinds_a, .inl (cI, 6, .inl c_kinds)), (c_seating_a, .inl (cI, 6, .inl c_seating)), (c_knows_a, .inl (cJ, 6, .inr (.inl z3))), (c_telling_a, .inl (cJ, 6, .inr (.inl c_telling)))] H → va_D A [(c_h, .inr (0, [.ref c_kinds_a, .ref c_seating_a, .ref c_knows_a, .ref c_seals_a, .ref c_telling_a, .int c_persons, .int c_wax, .int c_week, .int c_day, .int c_draw])), (c_kinds_a, .inl (cI, 6, .inl c_kinds)), (c_seating_a, .inl (cI, 6, .inl c_seating)), (c_knows_a, .inl (cJ, 6, .inr (.inl z3))), (c_telling_a, .inl (cJ, 6, .inr (.inl c_telling)))] → va_S A H0 H locs → W p l e R s m args below meth c H locs cells slots Q (F0 m 4 ls ([])) := by
    intro n
    induction n with
    | zero => intro x1 x2 z3 H locs ls hM; exact (sx_lp3_0 hM).elim
    | succ n ih =>
      intro x1 x2 z3 H locs ls hM hl hP hD hS
      have hM : bdX0_hearAll_4 F c_kinds c_seating c_telling c_persons (sx_lp3 (bdX0_hearAll_4 F c_kinds c_seating c_telling c_persons) n) x1 x2 z3 = some (r0, w_c_knows) := hM
      generalize sx_lp3 (bdX0_hearAll_4 F c_kinds c_seating c_telling c_persons) n = r_4 at hM ih
      unfold bdX0_hearAll_4 at hM
      refine lv_iload_n hx hb dX0_hearAll_4 rfl (lv_at hl 2 rfl) ?_
      refine lv_aload_n hx hb dX0_hearAll_5 rfl (lv_at hl 0 rfl) ?_
      refine va_get (D := D) (ci := 0) (v := .int c_persons) (C := RX0) (T := TX0) (N := 10) hx hb hts hin_X0 hown hK hP 0 rfl rfl 5 (by decide) hf_44 (fun _ h9 => h9) rfl dX0_hearAll_6 ?_
      refine lv_icmp_ge (tgt := 120) hx hb dX0_hearAll_9 (by decide) (fun c4 => ?_) (fun c4 => ?_)
      · replace hM := sx_ift c4 hM
        refine lv_iload_n hx hb dX0_hearAll_120 rfl (lv_at hl 1 rfl) ?_
        obtain ⟨rfl, rfl⟩ := sx_o2 hM
        exact hret _ _ _ _ dX0_hearAll_121 (hP.sub [0, 1, 2, 3, 4] rfl) (hD.sub [0, 1, 2, 3, 4] (by decide) rfl) hS
      · replace hM := sx_iff c4 hM
        refine lv_aload_n hx hb dX0_hearAll_12 rfl (lv_at hl 0 rfl) ?_
        refine va_get (D := D) (ci := 0) (v := .ref c_seating_a) (C := RX0) (T := TX0) (N := 10) hx hb hts hin_X0 hown hK hP 0 rfl rfl 1 (by decide) hf_15 (fun _ h9 => h9) rfl dX0_hearAll_13 ?_
        refine lv_iload_n hx hb dX0_hearAll_16 rfl (lv_at hl 2 rfl) ?_
        obtain ⟨g5, hM⟩ := sx_gd_s hM
        refine va_iald hx hb hK hP 2 0 rfl rfl (sx_ib_s g5) dX0_hearAll_17 ?_
        obtain ⟨v6, ev6, hM⟩ := sx_nm_s hM
        refine W.eq (g2 := F0 m 18 ls (.int v6 :: [])) (by subst ev6; rfl) ?_
        refine lv_istore_n (lv' := [(3, .int v6), (0, .ref c_h), (1, .int x1), (2, .int x2)]) hx hb dX0_hearAll_18 rfl hl (by decide) rfl (fun ls hl => ?_)
        refine lv_aload_n hx hb dX0_hearAll_19 rfl (lv_at hl 1 rfl) ?_
        refine va_get (D := D) (ci := 0) (v := .ref c_telling_a) (C := RX0) (T := TX0) (N := 10) hx hb hts hin_X0 hown hK hP 0 rfl rfl 4 (by decide) hf_25 (fun _ h9 => h9) rfl dX0_hearAll_20 ?_
        refine lv_aload_n hx hb dX0_hearAll_23 rfl (lv_at hl 1 rfl) ?_
        refine va_get (D := D) (ci := 0) (v := .ref c_seating_a) (C := RX0) (T := TX0) (N := 10) hx hb hts hin_X0 hown hK hP 0 rfl rfl 1 (by decide) hf_15 (fun _ h9 => h9) rfl dX0_hearAll_24 ?_
        refine lv_aload_n hx hb dX0_hearAll_27 rfl (lv_at hl 1 rfl) ?_
        refine lv_iload_n hx hb dX0_hearAll_28 rfl (lv_at hl 3 rfl) ?_
        refine lv_iconst (v := 1) hx hb dX0_hearAll_29 (by decide) ?_
        refine lv_iadd hx hb dX0_hearAll_30 ?_
        obtain ⟨r7, hc8, hM⟩ := sx_c1_s hM
        refine sx_iV (As := [.int (x2 + (1 : Int32))]) (rest := [.ref c_seating_a, .ref c_telling_a]) (wc := [(c_h, .inr (0, [.ref c_kinds_a, .ref c_seating_a, .ref c_knows_a, .ref c_seals_a, .ref c_telling_a, .int c_persons, .int c_wax, .int c_week, .int c_day, .int c_draw]))]) (wr := [(c_kinds_a, .inl (cI, 6, .inl c_kinds)), (c_seating_a, .inl (cI, 6, .inl c_seating)), (c_knows_a, .inl (cJ, 6, .inr (.inl z3))), (c_telling_a, .inl (cJ, 6, .inr (.inl c_telling)))]) (w1 := [(c_h, .inr (0, [.ref c_kinds_a, .ref c_seating_a, .ref c_knows_a, .ref c_seals_a, .ref c_telling_a, .int c_persons, .int c_wax, .int c_week, .int c_day, .int c_draw]))]) ⟨hx, hb, hml, hown, hts⟩ (mtX0_around l D cI cJ cS H.size c_h c_kinds_a c_seating_a c_knows_a c_seals_a c_telling_a c_persons c_wax c_week c_day c_draw (x2 + (1 : Int32)) F r7 hc8) (cwV 1 hts gX0_hearAll_X0_around rfl rfl rfl (by decide +kernel) ⟨Nat.le_trans (by decide) hRf, Nat.le_trans (by decide) hRl⟩) hK hN hP hD hS hA [0] [1, 2, 3, 4] rfl (by decide) rfl (by decide) (by decide) rfl rfl rfl rfl hl.1 rfl (Nat.le_of_ble_eq_true rfl) dX0_hearAll_31 hRc (fun H locs hP hD hS => ?_)
        have hP : va_P D vwCl [(c_kinds_a, .inl (cI, 6, .inl c_kinds)), (c_seating_a, .inl (cI, 6, .inl c_seating)), (c_knows_a, .inl (cJ, 6, .inr (.inl z3))), (c_telling_a, .inl (cJ, 6, .inr (.inl c_telling))), (c_h, .inr (0, [.ref c_kinds_a, .ref c_seating_a, .ref c_knows_a, .ref c_seals_a, .ref c_telling_a, .int c_persons, .int c_wax, .int c_week, .int c_day, .int c_draw]))] H := hP
        have hD : va_D A [(c_kinds_a, .inl (cI, 6, .inl c_kinds)), (c_seating_a, .inl (cI, 6, .inl c_seating)), (c_knows_a, .inl (cJ, 6, .inr (.inl z3))), (c_telling_a, .inl (cJ, 6, .inr (.inl c_telling))), (c_h, .inr (0, [.ref c_kinds_a, .ref c_seating_a, .ref c_knows_a, .ref c_seals_a, .ref c_telling_a, .int c_persons, .int c_wax, .int c_week, .int c_day, .int c_draw]))] := hD
        obtain ⟨g9, hM⟩ := sx_gd_s hM
        refine va_iald hx hb hK hP 1 0 rfl rfl (sx_ib_s g9) dX0_hearAll_34 ?_
        obtain ⟨g10, hM⟩ := sx_gd_s hM
        refine va_lald hx hb hK hP 3 1 rfl rfl (sx_ib_s g10) dX0_hearAll_35 ?_
        refine lv_aload_n hx hb dX0_hearAll_36 rfl (lv_at hl 1 rfl) ?_
        refine va_get (D := D) (ci := 0) (v := .ref c_telling_a) (C := RX0) (T := TX0) (N := 10) hx hb hts hin_X0 hown hK hP 4 rfl rfl 4 (by decide) hf_25 (fun _ h9 => h9) rfl dX0_hearAll_37 ?_
        refine lv_aload_n hx hb dX0_hearAll_40 rfl (lv_at hl 1 rfl) ?_
        refine va_get (D := D) (ci := 0) (v := .ref c_seating_a) (C := RX0) (T := TX0) (N := 10) hx hb hts hin_X0 hown hK hP 4 rfl rfl 1 (by decide) hf_15 (fun _ h9 => h9) rfl dX0_hearAll_41 ?_
        refine lv_aload_n hx hb dX0_hearAll_44 rfl (lv_at hl 1 rfl) ?_
        refine lv_iload_n hx hb dX0_hearAll_45 rfl (lv_at hl 3 rfl) ?_
        refine lv_aload_n hx hb dX0_hearAll_46 rfl (lv_at hl 1 rfl) ?_
        refine va_get (D := D) (ci := 0) (v := .int c_persons) (C := RX0) (T := TX0) (N := 10) hx hb hts hin_X0 hown hK hP 4 rfl rfl 5 (by decide) hf_44 (fun _ h9 => h9) rfl dX0_hearAll_47 ?_
        refine lv_iadd hx hb dX0_hearAll_50 ?_
        refine lv_iconst (v := 1) hx hb dX0_hearAll_51 (by decide) ?_
        refine lv_isub hx hb dX0_hearAll_52 ?_
        obtain ⟨r11, hc12, hM⟩ := sx_c1_s hM
        refine sx_iV (As := [.int ((x2 + c_persons) - (1 : Int32))]) (rest := [.ref c_seating_a, .ref c_telling_a, .long (c_telling ((c_seating (r7).toNatClampNeg)).toNatClampNeg)]) (wc := [(c_h, .inr (0, [.ref c_kinds_a, .ref c_seating_a, .ref c_knows_a, .ref c_seals_a, .ref c_telling_a, .int c_persons, .int c_wax, .int c_week, .int c_day, .int c_draw]))]) (wr := [(c_kinds_a, .inl (cI, 6, .inl c_kinds)), (c_seating_a, .inl (cI, 6, .inl c_seating)), (c_knows_a, .inl (cJ, 6, .inr (.inl z3))), (c_telling_a, .inl (cJ, 6, .inr (.inl c_telling)))]) (w1 := [(c_h, .inr (0, [.ref c_kinds_a, .ref c_seating_a, .ref c_knows_a, .ref c_seals_a, .ref c_telling_a, .int c_persons, .int c_wax, .int c_week, .int c_day, .int c_draw]))]) ⟨hx, hb, hml, hown, hts⟩ (mtX0_around l D cI cJ cS H.size c_h c_kinds_a c_seating_a c_knows_a c_seals_a c_telling_a c_persons c_wax c_week c_day c_draw ((x2 + c_persons) - (1 : Int32)) F r11 hc12) (cwV 1 hts gX0_hearAll_X0_around rfl rfl rfl (by decide +kernel) ⟨Nat.le_trans (by decide) hRf, Nat.le_trans (by decide) hRl⟩) hK hN hP hD hS hA [4] [0, 1, 2, 3] rfl (by decide) rfl (by decide) (by decide) rfl rfl rfl rfl hl.1 rfl (Nat.le_of_ble_eq_true rfl) dX0_hearAll_53 hRc (fun H locs hP hD hS => ?_)
        have hP : va_P D vwCl [(c_kinds_a, .inl (cI, 6, .inl c_kinds)), (c_seating_a, .inl (cI, 6, .inl c_seating)), (c_knows_a, .inl (cJ, 6, .inr (.inl z3))), (c_telling_a, .inl (cJ, 6, .inr (.inl c_telling))), (c_h, .inr (0, [.ref c_kinds_a, .ref c_seating_a, .ref c_knows_a, .ref c_seals_a, .ref c_telling_a, .int c_persons, .int c_wax, .int c_week, .int c_day, .int c_draw]))] H := hP
        have hD : va_D A [(c_kinds_a, .inl (cI, 6, .inl c_kinds)), (c_seating_a, .inl (cI, 6, .inl c_seating)), (c_knows_a, .inl (cJ, 6, .inr (.inl z3))), (c_telling_a, .inl (cJ, 6, .inr (.inl c_telling))), (c_h, .inr (0, [.ref c_kinds_a, .ref c_seating_a, .ref c_knows_a, .ref c_seals_a, .ref c_telling_a, .int c_persons, .int c_wax, .int c_week, .int c_day, .int c_draw]))] := hD
        obtain ⟨g13, hM⟩ := sx_gd_s hM
        refine va_iald hx hb hK hP 1 0 rfl rfl (sx_ib_s g13) dX0_hearAll_56 ?_
        obtain ⟨g14, hM⟩ := sx_gd_s hM
        refine va_lald hx hb hK hP 3 1 rfl rfl (sx_ib_s g14) dX0_hearAll_57 ?_
        refine lv_lor hx hb dX0_hearAll_58 ?_
        obtain ⟨v15, ev15, hM⟩ := sx_nm_s hM
        refine W.eq (g2 := F0 m 59 ls (.long v15 :: [])) (by subst ev15; rfl) ?_
        refine lv_lstore (lv' := [(4, .long v15), (3, .int v6), (0, .ref c_h), (1, .int x1), (2, .int x2)]) hx hb dX0_hearAll_59 hl (by decide) rfl (fun ls hl => ?_)
        refine lv_lload hx hb dX0_hearAll_61 (lv_at hl 0 rfl) ?_
        refine lv_aload_n hx hb dX0_hearAll_63 rfl (lv_at hl 2 rfl) ?_
        refine va_get (D := D) (ci := 0) (v := .ref c_knows_a) (C := RX0) (T := TX0) (N := 10) hx hb hts hin_X0 hown hK hP 4 rfl rfl 2 (by decide) hf_18 (fun _ h9 => h9) rfl dX0_hearAll_64 ?_
        refine lv_iload_n hx hb dX0_hearAll_67 rfl (lv_at hl 1 rfl) ?_
        obtain ⟨g16, hM⟩ := sx_gd_s hM
        refine va_lald hx hb hK hP 2 1 rfl rfl (sx_ib_s g16) dX0_hearAll_68 ?_
        refine lv_ldc2 (v := -1) hx hb hown (hts (.constantLong RX0 63 (-1)) (by decide +kernel)) dX0_hearAll_69 ?_
        refine lv_lxor hx hb dX0_hearAll_72 ?_
        refine lv_land hx hb dX0_hearAll_73 ?_
        obtain ⟨v17, ev17, hM⟩ := sx_nm_s hM
        refine W.eq (g2 := F0 m 74 ls (.long v17 :: [])) (by subst ev17; rfl) ?_
        refine lv_lstore (lv' := [(6, .long v17), (4, .long v15), (3, .int v6), (0, .ref c_h), (1, .int x1), (2, .int x2)]) hx hb dX0_hearAll_74 hl (by decide) rfl (fun ls hl => ?_)
        refine lv_lload hx hb dX0_hearAll_76 (lv_at hl 0 rfl) ?_
        refine lv_lconst (v := 0) hx hb dX0_hearAll_78 (by decide) ?_
        refine W.lcmp hx hb dX0_hearAll_79 ?_
        obtain ⟨k_114, ek_114, hM⟩ := sx_lt_s hM
        have hk_114 : ∀ (x18 : Int32) (z19 : Nat → Int64) (H : Heap) (locs : List Loc) (ls : Array Slot), k_114 x18 z19 = some (r0, w_c_knows) → lv_has ls 8 [(0, .ref c_h), (1, .int x18), (2, .int x2)] → va_P D vwCl [(c_kinds_a, .inl (cI, 6, .inl c_kinds)), (c_seating_a, .inl (cI, 6, .inl c_seating)), (c_knows_a, .inl (cJ, 6, .inr (.inl z19))), (c_telling_a, .inl (cJ, 6, .inr (.inl c_telling))), (c_h, .inr (0, [.ref c_kinds_a, .ref c_seating_a, .ref c_knows_a, .ref c_seals_a, .ref c_telling_a, .int c_persons, .int c_wax, .int c_week, .int c_day, .int c_draw]))] H → va_D A [(c_kinds_a, .inl (cI, 6, .inl c_kinds)), (c_seating_a, .inl (cI, 6, .inl c_seating)), (c_knows_a, .inl (cJ, 6, .inr (.inl z19))), (c_telling_a, .inl (cJ, 6, .inr (.inl c_telling))), (c_h, .inr (0, [.ref c_kinds_a, .ref c_seating_a, .ref c_knows_a, .ref c_seals_a, .ref c_telling_a, .int c_persons, .int c_wax, .int c_week, .int c_day, .int c_draw]))] → va_S A H0 H locs → W p l e R s m args below meth c H locs cells slots Q (F0 m 114 ls ([])) := by
          intro x18 z19 H locs ls hM hl hP hD hS
          rw [ek_114] at hM
          obtain ⟨v20, ev20, hM⟩ := sx_nm_s hM
          refine lv_iinc (v := v20) (lv' := [(2, .int v20), (0, .ref c_h), (1, .int x18)]) hx hb dX0_hearAll_114 hl (k := 2) rfl (by rw [ev20]; rfl) (by decide) rfl (fun ls hl => ?_)
          refine lv_goto (tgt := 4) hx hb dX0_hearAll_117 (by decide) ?_
          exact ih x18 v20 z19 _ _ _ hM (lv_sub hl [1, 2, 0] rfl) (hP.sub [4, 0, 1, 2, 3] rfl) (hD.sub [4, 0, 1, 2, 3] (by decide) rfl) hS
        refine lv_if_eq (tgt := 114) hx hb dX0_hearAll_80 (by decide) (fun c21 => ?_) (fun c21 => ?_)
        · replace hM := sx_ift c21 hM
          exact hk_114 x1 z3 _ _ _ hM (lv_sub hl [3, 4, 5] rfl) (hP.sub [0, 1, 2, 3, 4] rfl) (hD.sub [0, 1, 2, 3, 4] (by decide) rfl) hS
        · replace hM := sx_iff c21 hM
          refine lv_aload_n hx hb dX0_hearAll_83 rfl (lv_at hl 3 rfl) ?_
          refine va_get (D := D) (ci := 0) (v := .ref c_kinds_a) (C := RX0) (T := TX0) (N := 10) hx hb hts hin_X0 hown hK hP 4 rfl rfl 0 (by decide) hf_9 (fun _ h9 => h9) rfl dX0_hearAll_84 ?_
          refine lv_iload_n hx hb dX0_hearAll_87 rfl (lv_at hl 2 rfl) ?_
          obtain ⟨g22, hM⟩ := sx_gd_s hM
          refine va_iald hx hb hK hP 0 0 rfl rfl (sx_ib_s g22) dX0_hearAll_88 ?_
          obtain ⟨r23, hc24, hM⟩ := sx_c1_s hM
          refine sx_iSN (As := [.int (c_kinds (v6).toNatClampNeg)]) (rest := []) (wc := []) (wr := [(c_kinds_a, .inl (cI, 6, .inl c_kinds)), (c_seating_a, .inl (cI, 6, .inl c_seating)), (c_knows_a, .inl (cJ, 6, .inr (.inl z3))), (c_telling_a, .inl (cJ, 6, .inr (.inl c_telling))), (c_h, .inr (0, [.ref c_kinds_a, .ref c_seating_a, .ref c_knows_a, .ref c_seals_a, .ref c_telling_a, .int c_persons, .int c_wax, .int c_week, .int c_day, .int c_draw]))]) (w1 := []) ⟨hx, hb, hml, hown, hts⟩ (mtX4_hears l D cI cJ cS H.size (c_kinds (v6).toNatClampNeg) F r23 hc24) ⟨va_cnB (host := "SealedLips") 1 hts gX0_hearAll_X4_hears_n109 rfl rfl rfl (hN (.methodLinkNest "SealedLips$Court" 109 ⟨"SealedLips", "hears", "(I)Z"⟩ "SealedLips") (by decide +kernel)) (hts (.initialized RX4) (by decide +kernel)) (by decide +kernel) ⟨Nat.le_trans (by decide) hRf, Nat.le_trans (by decide) hRl⟩, hts (.static yX4_hears) (by decide +kernel), trivial⟩ hK hN hP hD hS hA [] [0, 1, 2, 3, 4] rfl (by decide) rfl (by decide) (by decide) rfl hl.1 rfl (Nat.le_of_ble_eq_true rfl) dX0_hearAll_89 hRc (fun H locs hP hD hS => ?_)
          have hP : va_P D vwCl [(c_kinds_a, .inl (cI, 6, .inl c_kinds)), (c_seating_a, .inl (cI, 6, .inl c_seating)), (c_knows_a, .inl (cJ, 6, .inr (.inl z3))), (c_telling_a, .inl (cJ, 6, .inr (.inl c_telling))), (c_h, .inr (0, [.ref c_kinds_a, .ref c_seating_a, .ref c_knows_a, .ref c_seals_a, .ref c_telling_a, .int c_persons, .int c_wax, .int c_week, .int c_day, .int c_draw]))] H := hP
          have hD : va_D A [(c_kinds_a, .inl (cI, 6, .inl c_kinds)), (c_seating_a, .inl (cI, 6, .inl c_seating)), (c_knows_a, .inl (cJ, 6, .inr (.inl z3))), (c_telling_a, .inl (cJ, 6, .inr (.inl c_telling))), (c_h, .inr (0, [.ref c_kinds_a, .ref c_seating_a, .ref c_knows_a, .ref c_seals_a, .ref c_telling_a, .int c_persons, .int c_wax, .int c_week, .int c_day, .int c_draw]))] := hD
          refine lv_if_eq (tgt := 114) hx hb dX0_hearAll_92 (by decide) (fun c25 => ?_) (fun c25 => ?_)
          · replace hM := sx_ift c25 hM
            exact hk_114 x1 z3 _ _ _ hM (lv_sub hl [3, 4, 5] rfl) (hP.sub [0, 1, 2, 3, 4] rfl) (hD.sub [0, 1, 2, 3, 4] (by decide) rfl) hS
          · replace hM := sx_iff c25 hM
            refine lv_aload_n hx hb dX0_hearAll_95 rfl (lv_at hl 3 rfl) ?_
            refine va_get (D := D) (ci := 0) (v := .ref c_knows_a) (C := RX0) (T := TX0) (N := 10) hx hb hts hin_X0 hown hK hP 4 rfl rfl 2 (by decide) hf_18 (fun _ h9 => h9) rfl dX0_hearAll_96 ?_
            refine lv_iload_n hx hb dX0_hearAll_99 rfl (lv_at hl 2 rfl) ?_
            refine lv_dup2_11 hx hb dX0_hearAll_100 rfl rfl ?_
            obtain ⟨g26, hM⟩ := sx_gd_s hM
            refine va_lald hx hb hK hP 2 1 rfl rfl (sx_ib_s g26) dX0_hearAll_101 ?_
            refine lv_lload hx hb dX0_hearAll_102 (lv_at hl 0 rfl) ?_
            refine lv_lor hx hb dX0_hearAll_104 ?_
            obtain ⟨g27, hM⟩ := sx_gd_s hM
            refine va_last hx hb hK hP hD hS 2 1 rfl rfl (sx_ib_s g27) dX0_hearAll_105 (fun H locs hP hD hS => ?_)
            have hP : va_P D vwCl [(c_kinds_a, .inl (cI, 6, .inl c_kinds)), (c_seating_a, .inl (cI, 6, .inl c_seating)), (c_knows_a, .inl (cJ, 6, .inr (.inl (vp_updL z3 (v6).toNatClampNeg ((z3 (v6).toNatClampNeg) ||| v17))))), (c_telling_a, .inl (cJ, 6, .inr (.inl c_telling))), (c_h, .inr (0, [.ref c_kinds_a, .ref c_seating_a, .ref c_knows_a, .ref c_seals_a, .ref c_telling_a, .int c_persons, .int c_wax, .int c_week, .int c_day, .int c_draw]))] H := hP
            have hD : va_D A [(c_kinds_a, .inl (cI, 6, .inl c_kinds)), (c_seating_a, .inl (cI, 6, .inl c_seating)), (c_knows_a, .inl (cJ, 6, .inr (.inl (vp_updL z3 (v6).toNatClampNeg ((z3 (v6).toNatClampNeg) ||| v17))))), (c_telling_a, .inl (cJ, 6, .inr (.inl c_telling))), (c_h, .inr (0, [.ref c_kinds_a, .ref c_seating_a, .ref c_knows_a, .ref c_seals_a, .ref c_telling_a, .int c_persons, .int c_wax, .int c_week, .int c_day, .int c_draw]))] := hD
            refine lv_iload_n hx hb dX0_hearAll_106 rfl (lv_at hl 4 rfl) ?_
            refine lv_lload hx hb dX0_hearAll_107 (lv_at hl 0 rfl) ?_
            obtain ⟨r28, hc29, hM⟩ := sx_c1_s hM
            refine sx_iS (As := [.long v17]) (rest := [.int x1]) (wc := []) (wr := [(c_kinds_a, .inl (cI, 6, .inl c_kinds)), (c_seating_a, .inl (cI, 6, .inl c_seating)), (c_knows_a, .inl (cJ, 6, .inr (.inl (vp_updL z3 (v6).toNatClampNeg ((z3 (v6).toNatClampNeg) ||| v17))))), (c_telling_a, .inl (cJ, 6, .inr (.inl c_telling))), (c_h, .inr (0, [.ref c_kinds_a, .ref c_seating_a, .ref c_knows_a, .ref c_seals_a, .ref c_telling_a, .int c_persons, .int c_wax, .int c_week, .int c_day, .int c_draw]))]) (w1 := []) ⟨hx, hb, hml, hown, hts⟩ (mtJ13_bitCount_95d88 l D cI cJ cS H.size v17 F r28 hc29) (va_cwS 1 hts gX0_hearAll_J13_bitCount_95d88 rfl rfl rfl (by decide +kernel) ⟨Nat.le_trans (by decide) hRf, Nat.le_trans (by decide) hRl⟩) hK hN hP hD hS hA [] [0, 1, 2, 3, 4] rfl (by decide) rfl (by decide) (by decide) rfl hl.1 rfl (Nat.le_of_ble_eq_true rfl) dX0_hearAll_109 hRc (fun H locs hP hD hS => ?_)
            have hP : va_P D vwCl [(c_kinds_a, .inl (cI, 6, .inl c_kinds)), (c_seating_a, .inl (cI, 6, .inl c_seating)), (c_knows_a, .inl (cJ, 6, .inr (.inl (vp_updL z3 (v6).toNatClampNeg ((z3 (v6).toNatClampNeg) ||| v17))))), (c_telling_a, .inl (cJ, 6, .inr (.inl c_telling))), (c_h, .inr (0, [.ref c_kinds_a, .ref c_seating_a, .ref c_knows_a, .ref c_seals_a, .ref c_telling_a, .int c_persons, .int c_wax, .int c_week, .int c_day, .int c_draw]))] H := hP
            have hD : va_D A [(c_kinds_a, .inl (cI, 6, .inl c_kinds)), (c_seating_a, .inl (cI, 6, .inl c_seating)), (c_knows_a, .inl (cJ, 6, .inr (.inl (vp_updL z3 (v6).toNatClampNeg ((z3 (v6).toNatClampNeg) ||| v17))))), (c_telling_a, .inl (cJ, 6, .inr (.inl c_telling))), (c_h, .inr (0, [.ref c_kinds_a, .ref c_seating_a, .ref c_knows_a, .ref c_seals_a, .ref c_telling_a, .int c_persons, .int c_wax, .int c_week, .int c_day, .int c_draw]))] := hD
            refine lv_iadd hx hb dX0_hearAll_112 ?_
            obtain ⟨v30, ev30, hM⟩ := sx_nm_s hM
            refine W.eq (g2 := F0 m 113 ls (.int v30 :: [])) (by subst ev30; rfl) ?_
            refine lv_istore_n (lv' := [(1, .int v30), (6, .long v17), (4, .long v15), (3, .int v6), (0, .ref c_h), (2, .int x2)]) hx hb dX0_hearAll_113 rfl hl (by decide) rfl (fun ls hl => ?_)
            exact hk_114 v30 (vp_updL z3 (v6).toNatClampNeg ((z3 (v6).toNatClampNeg) ||| v17)) _ _ _ hM (lv_sub hl [4, 0, 5] rfl) (hP.sub [0, 1, 2, 3, 4] rfl) (hD.sub [0, 1, 2, 3, 4] (by decide) rfl) hS
  exact lp_4 F (0 : Int32) (0 : Int32) c_knows _ _ _ hM (lv_sub hl [2, 1, 0] rfl) (hP.sub [0, 1, 2, 3, 4] rfl) (hD.sub [0, 1, 2, 3, 4] (by decide) rfl) hS
set_option maxHeartbeats 4000000 in
set_option maxRecDepth 100000 in
theorem mtX0_hearAll (l : Launch) (D : va_G) (cI cJ cS : ClassId) (sz : Nat) (c_h c_kinds_a c_seating_a c_knows_a c_seals_a c_telling_a : Nat) (c_kinds : Nat → Int32) (c_seating : Nat → Int32) (c_knows : Nat → Int64) (c_telling : Nat → Int64) (c_persons : Int32) (c_wax : Int32) (c_week : Int32) (c_day : Int32) (c_draw : Int32) (F : Nat) (r0 : Int32) (w_c_knows : Nat → Int64) (hM : fnX0_hearAll F c_kinds c_seating c_knows c_telling c_persons = some (r0, w_c_knows)) : sx_MI l yX0_hearAll wsX0_hearAll ({ frames := 1, cells := 0, slots := 0, locals := 21 }) D (sx_T cI cJ cS) sz [.ref c_h] [(c_h, .inr (0, [.ref c_kinds_a, .ref c_seating_a, .ref c_knows_a, .ref c_seals_a, .ref c_telling_a, .int c_persons, .int c_wax, .int c_week, .int c_day, .int c_draw])), (c_kinds_a, .inl (cI, 6, .inl c_kinds)), (c_seating_a, .inl (cI, 6, .inl c_seating)), (c_knows_a, .inl (cJ, 6, .inr (.inl c_knows))), (c_telling_a, .inl (cJ, 6, .inr (.inl c_telling)))] r0 [(c_h, .inr (0, [.ref c_kinds_a, .ref c_seating_a, .ref c_knows_a, .ref c_seals_a, .ref c_telling_a, .int c_persons, .int c_wax, .int c_week, .int c_day, .int c_draw])), (c_kinds_a, .inl (cI, 6, .inl c_kinds)), (c_seating_a, .inl (cI, 6, .inl c_seating)), (c_knows_a, .inl (cJ, 6, .inr (.inl w_c_knows))), (c_telling_a, .inl (cJ, 6, .inr (.inl c_telling)))] := by
  refine Met.ofW (cc := cX0_hearAll) (maxL := 8) (ret := (some .int)) (by decide) rfl ?_
  intro p e s m args below meth c s₁ B hml hv
  obtain ⟨rfl, hsz, hN, hP, hK, hD0⟩ := hv
  subst hsz
  have hl := lv_entry ([.ref c_h]) (n := 8) (Nat.le_of_ble_eq_true rfl)
  rw [lg_entry_eq]
  generalize (lg_sl ([.ref c_h]) ++ List.replicate (8 - (lg_sl ([.ref c_h])).length) Slot.unset).toArray = ls at hl ⊢
  exact kwX0_hearAll B.exec B.bytes hml (findClass_of_methodNamed B.named) (atoms_spec (ws := wsX0_hearAll) B.pre) hN hK (fun q h => Or.inr h) (by decide) (by decide) ⟨Nat.zero_le _, Nat.zero_le _⟩ c_h c_kinds_a c_seating_a c_knows_a c_seals_a c_telling_a c_kinds c_seating c_knows c_telling c_persons c_wax c_week c_day c_draw F r0 w_c_knows hM _ _ _ hl hP hD0.self va_S.rf (fun H1 locs1 ls1 pc1 hd hP hD hS => W.iret (v := r0) B.exec B.bytes B.returns (fun t ht hW => ⟨⟨r0, (), rfl, rfl, by rw [ht]; exact hP, hD⟩, hS.F ht⟩) hS.2.2 hd)
