def fnX4_within (F : Nat) (a1 : Int32) (a2 : Int32) (a3 : Int32) : Option (Int32) :=
  (if a1 < a2 then (some ((0 : Int32))) else (if a3 < a1 then (some ((0 : Int32))) else (some ((1 : Int32)))))
set_option maxHeartbeats 4000000 in
set_option maxRecDepth 100000 in
theorem kwX4_within {p : Program} {l : Launch} {e : Env} {R : Room} {s : State} {m : MethodId} {args : Array Value} {below : List Frame} {meth : Method} {c : Code} {cells slots : Nat} {Q : State → Prop} {A : Nat → Prop} {H0 : Heap} {D : va_G} {cI cJ cS : ClassId} (hx : p.tables.exec = Jvm.exec) (hb : c.code = cX4_within) (hml : c.maxLocals = 3) (hown : s.vm.findClass RX4 = some m.cls) (hts : ∀ w ∈ wsX4_within, w.before args s = true) (hN : sx_N s) (hK : va_K D vwCl (sx_T cI cJ cS) s) (hA : ∀ q, H0.size ≤ q → A q) (hRf : 0 ≤ R.frames) (hRl : 0 ≤ R.locals) (hRc : cells ≤ R.cells ∧ slots ≤ R.slots) (a1 : Int32) (a2 : Int32) (a3 : Int32) (F : Nat) (r0 : Int32) (hM : fnX4_within F a1 a2 a3 = some r0) (H : Heap) (locs : List Loc) (ls : Array Slot) (hl : lv_has ls 3 [(0, .int a1), (1, .int a2), (2, .int a3)]) (hP : va_P D vwCl [] H) (hD : va_D A []) (hS : va_S A H0 H locs)
    (hret : ∀ (H1 : Heap) (locs1 : List Loc) (ls1 : Array Slot) (pc1 : Nat), decode cX4_within pc1 = .ok (.ireturn, 1) → narrow .boolean (.int r0) = .int r0 → va_P D vwCl [] H1 → va_D A [] → va_S A H0 H1 locs1 → W p l e R s m args below meth c H1 locs1 cells slots Q (F0 m pc1 ls1 [.int r0])) : W p l e R s m args below meth c H locs cells slots Q (F0 m 0 ls []) := by
  unfold fnX4_within at hM
  refine lv_iload_n hx hb dX4_within_0 rfl (lv_at hl 0 rfl) ?_
  refine lv_iload_n hx hb dX4_within_1 rfl (lv_at hl 1 rfl) ?_
  refine lv_icmp_lt (tgt := 14) hx hb dX4_within_2 (by decide) (fun c1 => ?_) (fun c1 => ?_)
  · replace hM := sx_ift c1 hM
    refine lv_iconst (v := 0) hx hb dX4_within_14 (by decide) ?_
    cases hM
    exact hret _ _ _ _ dX4_within_15 rfl (hP.sub [] rfl) (hD.sub [] (by decide) rfl) hS
  · replace hM := sx_iff c1 hM
    refine lv_iload_n hx hb dX4_within_5 rfl (lv_at hl 0 rfl) ?_
    refine lv_iload_n hx hb dX4_within_6 rfl (lv_at hl 2 rfl) ?_
    refine lv_icmp_gt (tgt := 14) hx hb dX4_within_7 (by decide) (fun c2 => ?_) (fun c2 => ?_)
    · replace hM := sx_ift c2 hM
      refine lv_iconst (v := 0) hx hb dX4_within_14 (by decide) ?_
      cases hM
      exact hret _ _ _ _ dX4_within_15 rfl (hP.sub [] rfl) (hD.sub [] (by decide) rfl) hS
    · replace hM := sx_iff c2 hM
      refine lv_iconst (v := 1) hx hb dX4_within_10 (by decide) ?_
      refine lv_goto (tgt := 15) hx hb dX4_within_11 (by decide) ?_
      cases hM
      exact hret _ _ _ _ dX4_within_15 rfl (hP.sub [] rfl) (hD.sub [] (by decide) rfl) hS
set_option maxHeartbeats 4000000 in
set_option maxRecDepth 100000 in
theorem mtX4_within (l : Launch) (D : va_G) (cI cJ cS : ClassId) (sz : Nat) (a1 : Int32) (a2 : Int32) (a3 : Int32) (F : Nat) (r0 : Int32) (hM : fnX4_within F a1 a2 a3 = some r0) : sx_MI l yX4_within wsX4_within ({ frames := 0, cells := 0, slots := 0, locals := 0 }) D (sx_T cI cJ cS) sz [.int a1, .int a2, .int a3] [] r0 [] := by
  refine Met.ofW (cc := cX4_within) (maxL := 3) (ret := (some .boolean)) (by decide) rfl ?_
  intro p e s m args below meth c s₁ B hml hv
  obtain ⟨rfl, hsz, hN, hP, hK, hD0⟩ := hv
  subst hsz
  have hl := lv_entry ([.int a1, .int a2, .int a3]) (n := 3) (Nat.le_of_ble_eq_true rfl)
  rw [lg_entry_eq]
  generalize (lg_sl ([.int a1, .int a2, .int a3]) ++ List.replicate (3 - (lg_sl ([.int a1, .int a2, .int a3])).length) Slot.unset).toArray = ls at hl ⊢
  exact kwX4_within B.exec B.bytes hml (findClass_of_methodNamed B.named) (atoms_spec (ws := wsX4_within) B.pre) hN hK (fun q h => Or.inr h) (by decide) (by decide) ⟨Nat.zero_le _, Nat.zero_le _⟩ a1 a2 a3 F r0 hM _ _ _ hl hP hD0.self va_S.rf (fun H1 locs1 ls1 pc1 hd hz hP hD hS => W.zret (v := r0) B.exec B.bytes B.returns hz (fun t ht hW => ⟨⟨r0, (), rfl, rfl, by rw [ht]; exact hP, hD⟩, hS.F ht⟩) hS.2.2 hd)

def fnX4_isThing (F : Nat) (a1 : Int32) : Option (Int32) :=
  sx_c1 (fnX4_within F a1 (0 : Int32) (7 : Int32)) (fun (r1 : Int32) => sx_gd (sx_bl r1) ((some (r1))))
set_option maxHeartbeats 4000000 in
set_option maxRecDepth 100000 in
theorem kwX4_isThing {p : Program} {l : Launch} {e : Env} {R : Room} {s : State} {m : MethodId} {args : Array Value} {below : List Frame} {meth : Method} {c : Code} {cells slots : Nat} {Q : State → Prop} {A : Nat → Prop} {H0 : Heap} {D : va_G} {cI cJ cS : ClassId} (hx : p.tables.exec = Jvm.exec) (hb : c.code = cX4_isThing) (hml : c.maxLocals = 1) (hown : s.vm.findClass RX4 = some m.cls) (hts : ∀ w ∈ wsX4_isThing, w.before args s = true) (hN : sx_N s) (hK : va_K D vwCl (sx_T cI cJ cS) s) (hA : ∀ q, H0.size ≤ q → A q) (hRf : 1 ≤ R.frames) (hRl : 22 ≤ R.locals) (hRc : cells ≤ R.cells ∧ slots ≤ R.slots) (a1 : Int32) (F : Nat) (r0 : Int32) (hM : fnX4_isThing F a1 = some r0) (H : Heap) (locs : List Loc) (ls : Array Slot) (hl : lv_has ls 1 [(0, .int a1)]) (hP : va_P D vwCl [] H) (hD : va_D A []) (hS : va_S A H0 H locs)
    (hret : ∀ (H1 : Heap) (locs1 : List Loc) (ls1 : Array Slot) (pc1 : Nat), decode cX4_isThing pc1 = .ok (.ireturn, 1) → narrow .boolean (.int r0) = .int r0 → va_P D vwCl [] H1 → va_D A [] → va_S A H0 H1 locs1 → W p l e R s m args below meth c H1 locs1 cells slots Q (F0 m pc1 ls1 [.int r0])) : W p l e R s m args below meth c H locs cells slots Q (F0 m 0 ls []) := by
  unfold fnX4_isThing at hM
  refine lv_iload_n hx hb dX4_isThing_0 rfl (lv_at hl 0 rfl) ?_
  refine lv_iconst (v := 0) hx hb dX4_isThing_1 (by decide) ?_
  refine lv_bipush (v := 7) hx hb dX4_isThing_2 (by decide) ?_
  obtain ⟨r1, hc2, hM⟩ := sx_c1_s hM
  refine sx_iS (As := [.int a1, .int (0 : Int32), .int (7 : Int32)]) (rest := []) (wc := []) (wr := []) (w1 := []) ⟨hx, hb, hml, hown, hts⟩ (mtX4_within l D cI cJ cS H.size a1 (0 : Int32) (7 : Int32) F r1 hc2) (va_cwS 3 hts gX4_isThing_X4_within rfl rfl rfl (by decide +kernel) ⟨Nat.le_trans (by decide) hRf, Nat.le_trans (by decide) hRl⟩) hK hN hP hD hS hA [] [] rfl (by decide) rfl (by decide) (by decide) rfl hl.1 rfl (Nat.le_of_ble_eq_true rfl) dX4_isThing_4 hRc (fun H locs hP hD hS => ?_)
  have hP : va_P D vwCl [] H := hP
  have hD : va_D A [] := hD
  obtain ⟨g3, hM⟩ := sx_gd_s hM
  cases hM
  exact hret _ _ _ _ dX4_isThing_7 (sx_bl_s g3).1 (hP.sub [] rfl) (hD.sub [] (by decide) rfl) hS
set_option maxHeartbeats 4000000 in
set_option maxRecDepth 100000 in
theorem mtX4_isThing (l : Launch) (D : va_G) (cI cJ cS : ClassId) (sz : Nat) (a1 : Int32) (F : Nat) (r0 : Int32) (hM : fnX4_isThing F a1 = some r0) : sx_MI l yX4_isThing wsX4_isThing ({ frames := 1, cells := 0, slots := 0, locals := 22 }) D (sx_T cI cJ cS) sz [.int a1] [] r0 [] := by
  refine Met.ofW (cc := cX4_isThing) (maxL := 1) (ret := (some .boolean)) (by decide) rfl ?_
  intro p e s m args below meth c s₁ B hml hv
  obtain ⟨rfl, hsz, hN, hP, hK, hD0⟩ := hv
  subst hsz
  have hl := lv_entry ([.int a1]) (n := 1) (Nat.le_of_ble_eq_true rfl)
  rw [lg_entry_eq]
  generalize (lg_sl ([.int a1]) ++ List.replicate (1 - (lg_sl ([.int a1])).length) Slot.unset).toArray = ls at hl ⊢
  exact kwX4_isThing B.exec B.bytes hml (findClass_of_methodNamed B.named) (atoms_spec (ws := wsX4_isThing) B.pre) hN hK (fun q h => Or.inr h) (by decide) (by decide) ⟨Nat.zero_le _, Nat.zero_le _⟩ a1 F r0 hM _ _ _ hl hP hD0.self va_S.rf (fun H1 locs1 ls1 pc1 hd hz hP hD hS => W.zret (v := r0) B.exec B.bytes B.returns hz (fun t ht hW => ⟨⟨r0, (), rfl, rfl, by rw [ht]; exact hP, hD⟩, hS.F ht⟩) hS.2.2 hd)

def fnX4_weaker (F : Nat) (a1 : Int64) (a2 : Int32) : Option (Int64) :=
  sx_nm ((a1 ||| (-9187201950435737472 : Int64)) - ((72340172838076673 : Int64) * (a2).toInt64)) (fun (v1 : Int64) => sx_nm (((v1 &&& (-9187201950435737472 : Int64))).toUInt64 >>> (((7 : Int32)).toInt64.toUInt64 &&& Int64.toUInt64 63)).toInt64 (fun (v2 : Int64) => (some ((v1 &&& (v2 * (127 : Int64)))))))
set_option maxHeartbeats 4000000 in
set_option maxRecDepth 100000 in
theorem kwX4_weaker {p : Program} {l : Launch} {e : Env} {R : Room} {s : State} {m : MethodId} {args : Array Value} {below : List Frame} {meth : Method} {c : Code} {cells slots : Nat} {Q : State → Prop} {A : Nat → Prop} {H0 : Heap} {D : va_G} {cI cJ cS : ClassId} (hx : p.tables.exec = Jvm.exec) (hb : c.code = cX4_weaker) (hml : c.maxLocals = 7) (hown : s.vm.findClass RX4 = some m.cls) (hts : ∀ w ∈ wsX4_weaker, w.before args s = true) (hN : sx_N s) (hK : va_K D vwCl (sx_T cI cJ cS) s) (hA : ∀ q, H0.size ≤ q → A q) (hRf : 0 ≤ R.frames) (hRl : 0 ≤ R.locals) (hRc : cells ≤ R.cells ∧ slots ≤ R.slots) (a1 : Int64) (a2 : Int32) (F : Nat) (r0 : Int64) (hM : fnX4_weaker F a1 a2 = some r0) (H : Heap) (locs : List Loc) (ls : Array Slot) (hl : lv_has ls 7 [(0, .long a1), (2, .int a2)]) (hP : va_P D vwCl [] H) (hD : va_D A []) (hS : va_S A H0 H locs)
    (hret : ∀ (H1 : Heap) (locs1 : List Loc) (ls1 : Array Slot) (pc1 : Nat), decode cX4_weaker pc1 = .ok (.lreturn, 1) → va_P D vwCl [] H1 → va_D A [] → va_S A H0 H1 locs1 → W p l e R s m args below meth c H1 locs1 cells slots Q (F0 m pc1 ls1 [.long r0])) : W p l e R s m args below meth c H locs cells slots Q (F0 m 0 ls []) := by
  unfold fnX4_weaker at hM
  refine lv_lload_n hx hb dX4_weaker_0 rfl (lv_at hl 0 rfl) ?_
  refine lv_ldc2 (v := -9187201950435737472) hx hb hown (hts (.constantLong RX4 265 (-9187201950435737472)) (by decide +kernel)) dX4_weaker_1 ?_
  refine lv_lor hx hb dX4_weaker_4 ?_
  refine lv_ldc2 (v := 72340172838076673) hx hb hown (hts (.constantLong RX4 267 (72340172838076673)) (by decide +kernel)) dX4_weaker_5 ?_
  refine lv_iload_n hx hb dX4_weaker_8 rfl (lv_at hl 1 rfl) ?_
  refine lv_i2l hx hb dX4_weaker_9 rfl ?_
  refine lv_lmul hx hb dX4_weaker_10 ?_
  refine lv_lsub hx hb dX4_weaker_11 ?_
  obtain ⟨v1, ev1, hM⟩ := sx_nm_s hM
  refine W.eq (g2 := F0 m 12 ls (.long v1 :: [])) (by subst ev1; rfl) ?_
  refine lv_lstore_n (lv' := [(3, .long v1), (0, .long a1), (2, .int a2)]) hx hb dX4_weaker_12 rfl hl (by decide) rfl (fun ls hl => ?_)
  refine lv_lload_n hx hb dX4_weaker_13 rfl (lv_at hl 0 rfl) ?_
  refine lv_ldc2 (v := -9187201950435737472) hx hb hown (hts (.constantLong RX4 265 (-9187201950435737472)) (by decide +kernel)) dX4_weaker_14 ?_
  refine lv_land hx hb dX4_weaker_17 ?_
  refine lv_bipush (v := 7) hx hb dX4_weaker_18 (by decide) ?_
  refine lv_lushr hx hb dX4_weaker_20 rfl ?_
  obtain ⟨v2, ev2, hM⟩ := sx_nm_s hM
  refine W.eq (g2 := F0 m 21 ls (.long v2 :: [])) (by subst ev2; rfl) ?_
  refine lv_lstore (lv' := [(5, .long v2), (3, .long v1), (0, .long a1), (2, .int a2)]) hx hb dX4_weaker_21 hl (by decide) rfl (fun ls hl => ?_)
  refine lv_lload_n hx hb dX4_weaker_23 rfl (lv_at hl 1 rfl) ?_
  refine lv_lload hx hb dX4_weaker_24 (lv_at hl 0 rfl) ?_
  refine lv_ldc2 (v := 127) hx hb hown (hts (.constantLong RX4 269 (127)) (by decide +kernel)) dX4_weaker_26 ?_
  refine lv_lmul hx hb dX4_weaker_29 ?_
  refine lv_land hx hb dX4_weaker_30 ?_
  cases hM
  exact hret _ _ _ _ dX4_weaker_31 (hP.sub [] rfl) (hD.sub [] (by decide) rfl) hS
set_option maxHeartbeats 4000000 in
set_option maxRecDepth 100000 in
theorem mtX4_weaker (l : Launch) (D : va_G) (cI cJ cS : ClassId) (sz : Nat) (a1 : Int64) (a2 : Int32) (F : Nat) (r0 : Int64) (hM : fnX4_weaker F a1 a2 = some r0) : sx_ML l yX4_weaker wsX4_weaker ({ frames := 0, cells := 0, slots := 0, locals := 0 }) D (sx_T cI cJ cS) sz [.long a1, .int a2] [] r0 [] := by
  refine Met.ofW (cc := cX4_weaker) (maxL := 7) (ret := (some .long)) (by decide) rfl ?_
  intro p e s m args below meth c s₁ B hml hv
  obtain ⟨rfl, hsz, hN, hP, hK, hD0⟩ := hv
  subst hsz
  have hl := lv_entry ([.long a1, .int a2]) (n := 7) (Nat.le_of_ble_eq_true rfl)
  rw [lg_entry_eq]
  generalize (lg_sl ([.long a1, .int a2]) ++ List.replicate (7 - (lg_sl ([.long a1, .int a2])).length) Slot.unset).toArray = ls at hl ⊢
  exact kwX4_weaker B.exec B.bytes hml (findClass_of_methodNamed B.named) (atoms_spec (ws := wsX4_weaker) B.pre) hN hK (fun q h => Or.inr h) (by decide) (by decide) ⟨Nat.zero_le _, Nat.zero_le _⟩ a1 a2 F r0 hM _ _ _ hl hP hD0.self va_S.rf (fun H1 locs1 ls1 pc1 hd hP hD hS => W.lret (v := r0) B.exec B.bytes B.returns (fun t ht hW => ⟨⟨r0, (), rfl, rfl, by rw [ht]; exact hP, hD⟩, hS.F ht⟩) hS.2.2 hd)

def bdX0_placeOf_4 (F : Nat) (x1_ : Int32) (c_seating : Nat → Int32) (c_persons : Int32) (r_ : Int32 → Int32 → Option (Int32)) (x2_ : Int32) (x3_ : Int32) : Option (Int32) :=
  (if c_persons ≤ x3_ then (some (x2_)) else sx_gd (sx_ib x3_ 6) (sx_lt (fun (y5 : Int32) => sx_nm (x3_ + (1 : Int32)) (fun (v6 : Int32) => (r_ y5 v6))) (fun (k_27 : Int32 → Option (Int32)) => (if (c_seating (x3_).toNatClampNeg) = x1_ then (k_27 x3_) else (k_27 x2_)))))
def fnX0_placeOf (F : Nat) (c_seating : Nat → Int32) (c_persons : Int32) (a1 : Int32) : Option (Int32) :=
  sx_lp2 (bdX0_placeOf_4 F a1 c_seating c_persons) F (0 : Int32) (0 : Int32)
set_option maxHeartbeats 4000000 in
set_option maxRecDepth 100000 in
theorem kwX0_placeOf {p : Program} {l : Launch} {e : Env} {R : Room} {s : State} {m : MethodId} {args : Array Value} {below : List Frame} {meth : Method} {c : Code} {cells slots : Nat} {Q : State → Prop} {A : Nat → Prop} {H0 : Heap} {D : va_G} {cI cJ cS : ClassId} (hx : p.tables.exec = Jvm.exec) (hb : c.code = cX0_placeOf) (hml : c.maxLocals = 4) (hown : s.vm.findClass RX0 = some m.cls) (hts : ∀ w ∈ wsX0_placeOf, w.before args s = true) (hN : sx_N s) (hK : va_K D vwCl (sx_T cI cJ cS) s) (hA : ∀ q, H0.size ≤ q → A q) (hRf : 0 ≤ R.frames) (hRl : 0 ≤ R.locals) (hRc : cells ≤ R.cells ∧ slots ≤ R.slots) (c_h c_kinds_a c_seating_a c_knows_a c_seals_a c_telling_a : Nat) (c_seating : Nat → Int32) (c_persons : Int32) (c_wax : Int32) (c_week : Int32) (c_day : Int32) (c_draw : Int32) (a1 : Int32) (F : Nat) (r0 : Int32) (hM : fnX0_placeOf F c_seating c_persons a1 = some r0) (H : Heap) (locs : List Loc) (ls : Array Slot) (hl : lv_has ls 4 [(0, .ref c_h), (1, .int a1)]) (hP : va_P D vwCl [(c_h, .inr (0, [.ref c_kinds_a, .ref c_seating_a, .ref c_knows_a, .ref c_seals_a, .ref c_telling_a, .int c_persons, .int c_wax, .int c_week, .int c_day, .int c_draw])), (c_seating_a, .inl (cI, 6, .inl c_seating))] H) (hD : va_D A [(c_h, .inr (0, [.ref c_kinds_a, .ref c_seating_a, .ref c_knows_a, .ref c_seals_a, .ref c_telling_a, .int c_persons, .int c_wax, .int c_week, .int c_day, .int c_draw])), (c_seating_a, .inl (cI, 6, .inl c_seating))]) (hS : va_S A H0 H locs)
    (hret : ∀ (H1 : Heap) (locs1 : List Loc) (ls1 : Array Slot) (pc1 : Nat), decode cX0_placeOf pc1 = .ok (.ireturn, 1) → va_P D vwCl [(c_h, .inr (0, [.ref c_kinds_a, .ref c_seating_a, .ref c_knows_a, .ref c_seals_a, .ref c_telling_a, .int c_persons, .int c_wax, .int c_week, .int c_day, .int c_draw])), (c_seating_a, .inl (cI, 6, .inl c_seating))] H1 → va_D A [(c_h, .inr (0, [.ref c_kinds_a, .ref c_seating_a, .ref c_knows_a, .ref c_seals_a, .ref c_telling_a, .int c_persons, .int c_wax, .int c_week, .int c_day, .int c_draw])), (c_seating_a, .inl (cI, 6, .inl c_seating))] → va_S A H0 H1 locs1 → W p l e R s m args below meth c H1 locs1 cells slots Q (F0 m pc1 ls1 [.int r0])) : W p l e R s m args below meth c H locs cells slots Q (F0 m 0 ls []) := by
  have hf_15 := hts (.fieldLink RX0 15 "SealedLips$Court" "seating" "[I") (by decide +kernel)
  have hf_44 := hts (.fieldLink RX0 44 "SealedLips$Court" "persons" "I") (by decide +kernel)
  have hin_X0 : ∀ w ∈ wsX00, w ∈ wsX0_placeOf := by decide +kernel
  unfold fnX0_placeOf at hM
  refine lv_iconst (v := 0) hx hb dX0_placeOf_0 (by decide) ?_
  refine lv_istore_n (lv' := [(2, .int (0 : Int32)), (0, .ref c_h), (1, .int a1)]) hx hb dX0_placeOf_1 rfl hl (by decide) rfl (fun ls hl => ?_)
  refine lv_iconst (v := 0) hx hb dX0_placeOf_2 (by decide) ?_
  refine lv_istore_n (lv' := [(3, .int (0 : Int32)), (2, .int (0 : Int32)), (0, .ref c_h), (1, .int a1)]) hx hb dX0_placeOf_3 rfl hl (by decide) rfl (fun ls hl => ?_)
  have lp_4 : ∀ (n : Nat) (x1 : Int32) (x2 : Int32) (H : Heap) (locs : List Loc) (ls : Array Slot), sx_lp2 (bdX0_placeOf_4 F a1 c_seating c_persons) n x1 x2 = some r0 → lv_has ls 4 [(0, .ref c_h), (1, .int a1), (2, .int x1), (3, .int x2)] → va_P D vwCl [(c_h, .inr (0, [.ref c_kinds_a, .ref c_seating_a, .ref c_knows_a, .ref c_seals_a, .ref c_telling_a, .int c_persons, .int c_wax, .int c_week, .int c_day, .int c_draw])), (c_seating_a, .inl (cI, 6, .inl c_seating))] H → va_D A [(c_h, .inr (0, [.ref c_kinds_a, .ref c_seating_a, .ref c_knows_a, .ref c_seals_a, .ref c_telling_a, .int c_persons, .int c_wax, .int c_week, .int c_day, .int c_draw])), (c_seating_a, .inl (cI, 6, .inl c_seating))] → va_S A H0 H locs → W p l e R s m args below meth c H locs cells slots Q (F0 m 4 ls ([])) := by
    intro n
    induction n with
    | zero => intro x1 x2 H locs ls hM; exact (sx_lp2_0 hM).elim
    | succ n ih =>
      intro x1 x2 H locs ls hM hl hP hD hS
      have hM : bdX0_placeOf_4 F a1 c_seating c_persons (sx_lp2 (bdX0_placeOf_4 F a1 c_seating c_persons) n) x1 x2 = some r0 := hM
      generalize sx_lp2 (bdX0_placeOf_4 F a1 c_seating c_persons) n = r_4 at hM ih
      unfold bdX0_placeOf_4 at hM
      refine lv_iload_n hx hb dX0_placeOf_4 rfl (lv_at hl 3 rfl) ?_
      refine lv_aload_n hx hb dX0_placeOf_5 rfl (lv_at hl 0 rfl) ?_
      refine va_get (D := D) (ci := 0) (v := .int c_persons) (C := RX0) (T := TX0) (N := 10) hx hb hts hin_X0 hown hK hP 0 rfl rfl 5 (by decide) hf_44 (fun _ h9 => h9) rfl dX0_placeOf_6 ?_
      refine lv_icmp_ge (tgt := 34) hx hb dX0_placeOf_9 (by decide) (fun c3 => ?_) (fun c3 => ?_)
      · replace hM := sx_ift c3 hM
        refine lv_iload_n hx hb dX0_placeOf_34 rfl (lv_at hl 2 rfl) ?_
        cases hM
        exact hret _ _ _ _ dX0_placeOf_35 (hP.sub [0, 1] rfl) (hD.sub [0, 1] (by decide) rfl) hS
      · replace hM := sx_iff c3 hM
        refine lv_aload_n hx hb dX0_placeOf_12 rfl (lv_at hl 0 rfl) ?_
        refine va_get (D := D) (ci := 0) (v := .ref c_seating_a) (C := RX0) (T := TX0) (N := 10) hx hb hts hin_X0 hown hK hP 0 rfl rfl 1 (by decide) hf_15 (fun _ h9 => h9) rfl dX0_placeOf_13 ?_
        refine lv_iload_n hx hb dX0_placeOf_16 rfl (lv_at hl 3 rfl) ?_
        obtain ⟨g4, hM⟩ := sx_gd_s hM
        refine va_iald hx hb hK hP 1 0 rfl rfl (sx_ib_s g4) dX0_placeOf_17 ?_
        refine lv_iload_n hx hb dX0_placeOf_18 rfl (lv_at hl 1 rfl) ?_
        obtain ⟨k_27, ek_27, hM⟩ := sx_lt_s hM
        have hk_27 : ∀ (y5 : Int32) (H : Heap) (locs : List Loc) (ls : Array Slot), k_27 y5 = some r0 → lv_has ls 4 [(0, .ref c_h), (1, .int a1), (3, .int x2)] → va_P D vwCl [(c_h, .inr (0, [.ref c_kinds_a, .ref c_seating_a, .ref c_knows_a, .ref c_seals_a, .ref c_telling_a, .int c_persons, .int c_wax, .int c_week, .int c_day, .int c_draw])), (c_seating_a, .inl (cI, 6, .inl c_seating))] H → va_D A [(c_h, .inr (0, [.ref c_kinds_a, .ref c_seating_a, .ref c_knows_a, .ref c_seals_a, .ref c_telling_a, .int c_persons, .int c_wax, .int c_week, .int c_day, .int c_draw])), (c_seating_a, .inl (cI, 6, .inl c_seating))] → va_S A H0 H locs → W p l e R s m args below meth c H locs cells slots Q (F0 m 27 ls (.int y5 :: [])) := by
          intro y5 H locs ls hM hl hP hD hS
          rw [ek_27] at hM
          refine lv_istore_n (lv' := [(2, .int y5), (0, .ref c_h), (1, .int a1), (3, .int x2)]) hx hb dX0_placeOf_27 rfl hl (by decide) rfl (fun ls hl => ?_)
          obtain ⟨v6, ev6, hM⟩ := sx_nm_s hM
          refine lv_iinc (v := v6) (lv' := [(3, .int v6), (2, .int y5), (0, .ref c_h), (1, .int a1)]) hx hb dX0_placeOf_28 hl (k := 3) rfl (by rw [ev6]; rfl) (by decide) rfl (fun ls hl => ?_)
          refine lv_goto (tgt := 4) hx hb dX0_placeOf_31 (by decide) ?_
          exact ih y5 v6 _ _ _ hM (lv_sub hl [2, 3, 1, 0] rfl) (hP.sub [0, 1] rfl) (hD.sub [0, 1] (by decide) rfl) hS
        refine lv_icmp_ne (tgt := 26) hx hb dX0_placeOf_19 (by decide) (fun c7 => ?_) (fun c7 => ?_)
        · replace hM := sx_iff c7 hM
          refine lv_iload_n hx hb dX0_placeOf_26 rfl (lv_at hl 2 rfl) ?_
          exact hk_27 x1 _ _ _ hM (lv_sub hl [0, 1, 3] rfl) (hP.sub [0, 1] rfl) (hD.sub [0, 1] (by decide) rfl) hS
        · replace hM := sx_ift c7 hM
          refine lv_iload_n hx hb dX0_placeOf_22 rfl (lv_at hl 3 rfl) ?_
          refine lv_goto (tgt := 27) hx hb dX0_placeOf_23 (by decide) ?_
          exact hk_27 x2 _ _ _ hM (lv_sub hl [0, 1, 3] rfl) (hP.sub [0, 1] rfl) (hD.sub [0, 1] (by decide) rfl) hS
  exact lp_4 F (0 : Int32) (0 : Int32) _ _ _ hM (lv_sub hl [2, 3, 1, 0] rfl) (hP.sub [0, 1] rfl) (hD.sub [0, 1] (by decide) rfl) hS
set_option maxHeartbeats 4000000 in
set_option maxRecDepth 100000 in
theorem mtX0_placeOf (l : Launch) (D : va_G) (cI cJ cS : ClassId) (sz : Nat) (c_h c_kinds_a c_seating_a c_knows_a c_seals_a c_telling_a : Nat) (c_seating : Nat → Int32) (c_persons : Int32) (c_wax : Int32) (c_week : Int32) (c_day : Int32) (c_draw : Int32) (a1 : Int32) (F : Nat) (r0 : Int32) (hM : fnX0_placeOf F c_seating c_persons a1 = some r0) : sx_MI l yX0_placeOf wsX0_placeOf ({ frames := 0, cells := 0, slots := 0, locals := 0 }) D (sx_T cI cJ cS) sz [.ref c_h, .int a1] [(c_h, .inr (0, [.ref c_kinds_a, .ref c_seating_a, .ref c_knows_a, .ref c_seals_a, .ref c_telling_a, .int c_persons, .int c_wax, .int c_week, .int c_day, .int c_draw])), (c_seating_a, .inl (cI, 6, .inl c_seating))] r0 [(c_h, .inr (0, [.ref c_kinds_a, .ref c_seating_a, .ref c_knows_a, .ref c_seals_a, .ref c_telling_a, .int c_persons, .int c_wax, .int c_week, .int c_day, .int c_draw])), (c_seating_a, .inl (cI, 6, .inl c_seating))] := by
  refine Met.ofW (cc := cX0_placeOf) (maxL := 4) (ret := (some .int)) (by decide) rfl ?_
  intro p e s m args below meth c s₁ B hml hv
  obtain ⟨rfl, hsz, hN, hP, hK, hD0⟩ := hv
  subst hsz
  have hl := lv_entry ([.ref c_h, .int a1]) (n := 4) (Nat.le_of_ble_eq_true rfl)
  rw [lg_entry_eq]
  generalize (lg_sl ([.ref c_h, .int a1]) ++ List.replicate (4 - (lg_sl ([.ref c_h, .int a1])).length) Slot.unset).toArray = ls at hl ⊢
  exact kwX0_placeOf B.exec B.bytes hml (findClass_of_methodNamed B.named) (atoms_spec (ws := wsX0_placeOf) B.pre) hN hK (fun q h => Or.inr h) (by decide) (by decide) ⟨Nat.zero_le _, Nat.zero_le _⟩ c_h c_kinds_a c_seating_a c_knows_a c_seals_a c_telling_a c_seating c_persons c_wax c_week c_day c_draw a1 F r0 hM _ _ _ hl hP hD0.self va_S.rf (fun H1 locs1 ls1 pc1 hd hP hD hS => W.iret (v := r0) B.exec B.bytes B.returns (fun t ht hW => ⟨⟨r0, (), rfl, rfl, by rw [ht]; exact hP, hD⟩, hS.F ht⟩) hS.2.2 hd)

def fnX0_around (F : Nat) (c_persons : Int32) (a1 : Int32) : Option (Int32) :=
  (if a1 < c_persons then (some (a1)) else (some ((a1 - c_persons))))
set_option maxHeartbeats 4000000 in
set_option maxRecDepth 100000 in
theorem kwX0_around {p : Program} {l : Launch} {e : Env} {R : Room} {s : State} {m : MethodId} {args : Array Value} {below : List Frame} {meth : Method} {c : Code} {cells slots : Nat} {Q : State → Prop} {A : Nat → Prop} {H0 : Heap} {D : va_G} {cI cJ cS : ClassId} (hx : p.tables.exec = Jvm.exec) (hb : c.code = cX0_around) (hml : c.maxLocals = 2) (hown : s.vm.findClass RX0 = some m.cls) (hts : ∀ w ∈ wsX0_around, w.before args s = true) (hN : sx_N s) (hK : va_K D vwCl (sx_T cI cJ cS) s) (hA : ∀ q, H0.size ≤ q → A q) (hRf : 0 ≤ R.frames) (hRl : 0 ≤ R.locals) (hRc : cells ≤ R.cells ∧ slots ≤ R.slots) (c_h c_kinds_a c_seating_a c_knows_a c_seals_a c_telling_a : Nat) (c_persons : Int32) (c_wax : Int32) (c_week : Int32) (c_day : Int32) (c_draw : Int32) (a1 : Int32) (F : Nat) (r0 : Int32) (hM : fnX0_around F c_persons a1 = some r0) (H : Heap) (locs : List Loc) (ls : Array Slot) (hl : lv_has ls 2 [(0, .ref c_h), (1, .int a1)]) (hP : va_P D vwCl [(c_h, .inr (0, [.ref c_kinds_a, .ref c_seating_a, .ref c_knows_a, .ref c_seals_a, .ref c_telling_a, .int c_persons, .int c_wax, .int c_week, .int c_day, .int c_draw]))] H) (hD : va_D A [(c_h, .inr (0, [.ref c_kinds_a, .ref c_seating_a, .ref c_knows_a, .ref c_seals_a, .ref c_telling_a, .int c_persons, .int c_wax, .int c_week, .int c_day, .int c_draw]))]) (hS : va_S A H0 H locs)
    (hret : ∀ (H1 : Heap) (locs1 : List Loc) (ls1 : Array Slot) (pc1 : Nat), decode cX0_around pc1 = .ok (.ireturn, 1) → va_P D vwCl [(c_h, .inr (0, [.ref c_kinds_a, .ref c_seating_a, .ref c_knows_a, .ref c_seals_a, .ref c_telling_a, .int c_persons, .int c_wax, .int c_week, .int c_day, .int c_draw]))] H1 → va_D A [(c_h, .inr (0, [.ref c_kinds_a, .ref c_seating_a, .ref c_knows_a, .ref c_seals_a, .ref c_telling_a, .int c_persons, .int c_wax, .int c_week, .int c_day, .int c_draw]))] → va_S A H0 H1 locs1 → W p l e R s m args below meth c H1 locs1 cells slots Q (F0 m pc1 ls1 [.int r0])) : W p l e R s m args below meth c H locs cells slots Q (F0 m 0 ls []) := by
  have hf_44 := hts (.fieldLink RX0 44 "SealedLips$Court" "persons" "I") (by decide +kernel)
  have hin_X0 : ∀ w ∈ wsX00, w ∈ wsX0_around := by decide +kernel
  unfold fnX0_around at hM
  refine lv_iload_n hx hb dX0_around_0 rfl (lv_at hl 1 rfl) ?_
  refine lv_aload_n hx hb dX0_around_1 rfl (lv_at hl 0 rfl) ?_
  refine va_get (D := D) (ci := 0) (v := .int c_persons) (C := RX0) (T := TX0) (N := 10) hx hb hts hin_X0 hown hK hP 0 rfl rfl 5 (by decide) hf_44 (fun _ h9 => h9) rfl dX0_around_2 ?_
  refine lv_icmp_lt (tgt := 17) hx hb dX0_around_5 (by decide) (fun c1 => ?_) (fun c1 => ?_)
  · replace hM := sx_ift c1 hM
    refine lv_iload_n hx hb dX0_around_17 rfl (lv_at hl 1 rfl) ?_
    cases hM
    exact hret _ _ _ _ dX0_around_18 (hP.sub [0] rfl) (hD.sub [0] (by decide) rfl) hS
  · replace hM := sx_iff c1 hM
    refine lv_iload_n hx hb dX0_around_8 rfl (lv_at hl 1 rfl) ?_
    refine lv_aload_n hx hb dX0_around_9 rfl (lv_at hl 0 rfl) ?_
    refine va_get (D := D) (ci := 0) (v := .int c_persons) (C := RX0) (T := TX0) (N := 10) hx hb hts hin_X0 hown hK hP 0 rfl rfl 5 (by decide) hf_44 (fun _ h9 => h9) rfl dX0_around_10 ?_
    refine lv_isub hx hb dX0_around_13 ?_
    refine lv_goto (tgt := 18) hx hb dX0_around_14 (by decide) ?_
    cases hM
    exact hret _ _ _ _ dX0_around_18 (hP.sub [0] rfl) (hD.sub [0] (by decide) rfl) hS
set_option maxHeartbeats 4000000 in
set_option maxRecDepth 100000 in
theorem mtX0_around (l : Launch) (D : va_G) (cI cJ cS : ClassId) (sz : Nat) (c_h c_kinds_a c_seating_a c_knows_a c_seals_a c_telling_a : Nat) (c_persons : Int32) (c_wax : Int32) (c_week : Int32) (c_day : Int32) (c_draw : Int32) (a1 : Int32) (F : Nat) (r0 : Int32) (hM : fnX0_around F c_persons a1 = some r0) : sx_MI l yX0_around wsX0_around ({ frames := 0, cells := 0, slots := 0, locals := 0 }) D (sx_T cI cJ cS) sz [.ref c_h, .int a1] [(c_h, .inr (0, [.ref c_kinds_a, .ref c_seating_a, .ref c_knows_a, .ref c_seals_a, .ref c_telling_a, .int c_persons, .int c_wax, .int c_week, .int c_day, .int c_draw]))] r0 [(c_h, .inr (0, [.ref c_kinds_a, .ref c_seating_a, .ref c_knows_a, .ref c_seals_a, .ref c_telling_a, .int c_persons, .int c_wax, .int c_week, .int c_day, .int c_draw]))] := by
  refine Met.ofW (cc := cX0_around) (maxL := 2) (ret := (some .int)) (by decide) rfl ?_
  intro p e s m args below meth c s₁ B hml hv
  obtain ⟨rfl, hsz, hN, hP, hK, hD0⟩ := hv
  subst hsz
  have hl := lv_entry ([.ref c_h, .int a1]) (n := 2) (Nat.le_of_ble_eq_true rfl)
  rw [lg_entry_eq]
  generalize (lg_sl ([.ref c_h, .int a1]) ++ List.replicate (2 - (lg_sl ([.ref c_h, .int a1])).length) Slot.unset).toArray = ls at hl ⊢
  exact kwX0_around B.exec B.bytes hml (findClass_of_methodNamed B.named) (atoms_spec (ws := wsX0_around) B.pre) hN hK (fun q h => Or.inr h) (by decide) (by decide) ⟨Nat.zero_le _, Nat.zero_le _⟩ c_h c_kinds_a c_seating_a c_knows_a c_seals_a c_telling_a c_persons c_wax c_week c_day c_draw a1 F r0 hM _ _ _ hl hP hD0.self va_S.rf (fun H1 locs1 ls1 pc1 hd hP hD hS => W.iret (v := r0) B.exec B.bytes B.returns (fun t ht hW => ⟨⟨r0, (), rfl, rfl, by rw [ht]; exact hP, hD⟩, hS.F ht⟩) hS.2.2 hd)

def fnX0_beside (F : Nat) (c_seating : Nat → Int32) (c_persons : Int32) (a1 : Int32) (a2 : Int32) : Option (Int32) :=
  sx_c1 (fnX0_placeOf F c_seating c_persons a1) (fun (r1 : Int32) => sx_c1 (fnX0_around F c_persons (r1 + a2)) (fun (r3 : Int32) => sx_gd (sx_ib r3 6) ((some ((c_seating (r3).toNatClampNeg))))))
set_option maxHeartbeats 4000000 in
set_option maxRecDepth 100000 in
theorem kwX0_beside {p : Program} {l : Launch} {e : Env} {R : Room} {s : State} {m : MethodId} {args : Array Value} {below : List Frame} {meth : Method} {c : Code} {cells slots : Nat} {Q : State → Prop} {A : Nat → Prop} {H0 : Heap} {D : va_G} {cI cJ cS : ClassId} (hx : p.tables.exec = Jvm.exec) (hb : c.code = cX0_beside) (hml : c.maxLocals = 3) (hown : s.vm.findClass RX0 = some m.cls) (hts : ∀ w ∈ wsX0_beside, w.before args s = true) (hN : sx_N s) (hK : va_K D vwCl (sx_T cI cJ cS) s) (hA : ∀ q, H0.size ≤ q → A q) (hRf : 1 ≤ R.frames) (hRl : 23 ≤ R.locals) (hRc : cells ≤ R.cells ∧ slots ≤ R.slots) (c_h c_kinds_a c_seating_a c_knows_a c_seals_a c_telling_a : Nat) (c_seating : Nat → Int32) (c_persons : Int32) (c_wax : Int32) (c_week : Int32) (c_day : Int32) (c_draw : Int32) (a1 : Int32) (a2 : Int32) (F : Nat) (r0 : Int32) (hM : fnX0_beside F c_seating c_persons a1 a2 = some r0) (H : Heap) (locs : List Loc) (ls : Array Slot) (hl : lv_has ls 3 [(0, .ref c_h), (1, .int a1), (2, .int a2)]) (hP : va_P D vwCl [(c_h, .inr (0, [.ref c_kinds_a, .ref c_seating_a, .ref c_knows_a, .ref c_seals_a, .ref c_telling_a, .int c_persons, .int c_wax, .int c_week, .int c_day, .int c_draw])), (c_seating_a, .inl (cI, 6, .inl c_seating))] H) (hD : va_D A [(c_h, .inr (0, [.ref c_kinds_a, .ref c_seating_a, .ref c_knows_a, .ref c_seals_a, .ref c_telling_a, .int c_persons, .int c_wax, .int c_week, .int c_day, .int c_draw])), (c_seating_a, .inl (cI, 6, .inl c_seating))]) (hS : va_S A H0 H locs)
    (hret : ∀ (H1 : Heap) (locs1 : List Loc) (ls1 : Array Slot) (pc1 : Nat), decode cX0_beside pc1 = .ok (.ireturn, 1) → va_P D vwCl [(c_h, .inr (0, [.ref c_kinds_a, .ref c_seating_a, .ref c_knows_a, .ref c_seals_a, .ref c_telling_a, .int c_persons, .int c_wax, .int c_week, .int c_day, .int c_draw])), (c_seating_a, .inl (cI, 6, .inl c_seating))] H1 → va_D A [(c_h, .inr (0, [.ref c_kinds_a, .ref c_seating_a, .ref c_knows_a, .ref c_seals_a, .ref c_telling_a, .int c_persons, .int c_wax, .int c_week, .int c_day, .int c_draw])), (c_seating_a, .inl (cI, 6, .inl c_seating))] → va_S A H0 H1 locs1 → W p l e R s m args below meth c H1 locs1 cells slots Q (F0 m pc1 ls1 [.int r0])) : W p l e R s m args below meth c H locs cells slots Q (F0 m 0 ls []) := by
  have hf_15 := hts (.fieldLink RX0 15 "SealedLips$Court" "seating" "[I") (by decide +kernel)
  have hin_X0 : ∀ w ∈ wsX00, w ∈ wsX0_beside := by decide +kernel
  unfold fnX0_beside at hM
  refine lv_aload_n hx hb dX0_beside_0 rfl (lv_at hl 0 rfl) ?_
  refine va_get (D := D) (ci := 0) (v := .ref c_seating_a) (C := RX0) (T := TX0) (N := 10) hx hb hts hin_X0 hown hK hP 0 rfl rfl 1 (by decide) hf_15 (fun _ h9 => h9) rfl dX0_beside_1 ?_
  refine lv_aload_n hx hb dX0_beside_4 rfl (lv_at hl 0 rfl) ?_
  refine lv_aload_n hx hb dX0_beside_5 rfl (lv_at hl 0 rfl) ?_
  refine lv_iload_n hx hb dX0_beside_6 rfl (lv_at hl 1 rfl) ?_
  obtain ⟨r1, hc2, hM⟩ := sx_c1_s hM
  refine sx_iV (As := [.int a1]) (rest := [.ref c_h, .ref c_seating_a]) (wc := [(c_h, .inr (0, [.ref c_kinds_a, .ref c_seating_a, .ref c_knows_a, .ref c_seals_a, .ref c_telling_a, .int c_persons, .int c_wax, .int c_week, .int c_day, .int c_draw])), (c_seating_a, .inl (cI, 6, .inl c_seating))]) (wr := []) (w1 := [(c_h, .inr (0, [.ref c_kinds_a, .ref c_seating_a, .ref c_knows_a, .ref c_seals_a, .ref c_telling_a, .int c_persons, .int c_wax, .int c_week, .int c_day, .int c_draw])), (c_seating_a, .inl (cI, 6, .inl c_seating))]) ⟨hx, hb, hml, hown, hts⟩ (mtX0_placeOf l D cI cJ cS H.size c_h c_kinds_a c_seating_a c_knows_a c_seals_a c_telling_a c_seating c_persons c_wax c_week c_day c_draw a1 F r1 hc2) (cwV 1 hts gX0_beside_X0_placeOf rfl rfl rfl (by decide +kernel) ⟨Nat.le_trans (by decide) hRf, Nat.le_trans (by decide) hRl⟩) hK hN hP hD hS hA [0, 1] [] rfl (by decide) rfl (by decide) (by decide) rfl rfl rfl rfl hl.1 rfl (Nat.le_of_ble_eq_true rfl) dX0_beside_7 hRc (fun H locs hP hD hS => ?_)
  have hP : va_P D vwCl [(c_h, .inr (0, [.ref c_kinds_a, .ref c_seating_a, .ref c_knows_a, .ref c_seals_a, .ref c_telling_a, .int c_persons, .int c_wax, .int c_week, .int c_day, .int c_draw])), (c_seating_a, .inl (cI, 6, .inl c_seating))] H := hP
  have hD : va_D A [(c_h, .inr (0, [.ref c_kinds_a, .ref c_seating_a, .ref c_knows_a, .ref c_seals_a, .ref c_telling_a, .int c_persons, .int c_wax, .int c_week, .int c_day, .int c_draw])), (c_seating_a, .inl (cI, 6, .inl c_seating))] := hD
  refine lv_iload_n hx hb dX0_beside_10 rfl (lv_at hl 2 rfl) ?_
  refine lv_iadd hx hb dX0_beside_11 ?_
  obtain ⟨r3, hc4, hM⟩ := sx_c1_s hM
  refine sx_iV (As := [.int (r1 + a2)]) (rest := [.ref c_seating_a]) (wc := [(c_h, .inr (0, [.ref c_kinds_a, .ref c_seating_a, .ref c_knows_a, .ref c_seals_a, .ref c_telling_a, .int c_persons, .int c_wax, .int c_week, .int c_day, .int c_draw]))]) (wr := [(c_seating_a, .inl (cI, 6, .inl c_seating))]) (w1 := [(c_h, .inr (0, [.ref c_kinds_a, .ref c_seating_a, .ref c_knows_a, .ref c_seals_a, .ref c_telling_a, .int c_persons, .int c_wax, .int c_week, .int c_day, .int c_draw]))]) ⟨hx, hb, hml, hown, hts⟩ (mtX0_around l D cI cJ cS H.size c_h c_kinds_a c_seating_a c_knows_a c_seals_a c_telling_a c_persons c_wax c_week c_day c_draw (r1 + a2) F r3 hc4) (cwV 1 hts gX0_beside_X0_around rfl rfl rfl (by decide +kernel) ⟨Nat.le_trans (by decide) hRf, Nat.le_trans (by decide) hRl⟩) hK hN hP hD hS hA [0] [1] rfl (by decide) rfl (by decide) (by decide) rfl rfl rfl rfl hl.1 rfl (Nat.le_of_ble_eq_true rfl) dX0_beside_12 hRc (fun H locs hP hD hS => ?_)
  have hP : va_P D vwCl [(c_seating_a, .inl (cI, 6, .inl c_seating)), (c_h, .inr (0, [.ref c_kinds_a, .ref c_seating_a, .ref c_knows_a, .ref c_seals_a, .ref c_telling_a, .int c_persons, .int c_wax, .int c_week, .int c_day, .int c_draw]))] H := hP
  have hD : va_D A [(c_seating_a, .inl (cI, 6, .inl c_seating)), (c_h, .inr (0, [.ref c_kinds_a, .ref c_seating_a, .ref c_knows_a, .ref c_seals_a, .ref c_telling_a, .int c_persons, .int c_wax, .int c_week, .int c_day, .int c_draw]))] := hD
  obtain ⟨g5, hM⟩ := sx_gd_s hM
  refine va_iald hx hb hK hP 0 0 rfl rfl (sx_ib_s g5) dX0_beside_15 ?_
  cases hM
  exact hret _ _ _ _ dX0_beside_16 (hP.sub [1, 0] rfl) (hD.sub [1, 0] (by decide) rfl) hS
set_option maxHeartbeats 4000000 in
set_option maxRecDepth 100000 in
theorem mtX0_beside (l : Launch) (D : va_G) (cI cJ cS : ClassId) (sz : Nat) (c_h c_kinds_a c_seating_a c_knows_a c_seals_a c_telling_a : Nat) (c_seating : Nat → Int32) (c_persons : Int32) (c_wax : Int32) (c_week : Int32) (c_day : Int32) (c_draw : Int32) (a1 : Int32) (a2 : Int32) (F : Nat) (r0 : Int32) (hM : fnX0_beside F c_seating c_persons a1 a2 = some r0) : sx_MI l yX0_beside wsX0_beside ({ frames := 1, cells := 0, slots := 0, locals := 23 }) D (sx_T cI cJ cS) sz [.ref c_h, .int a1, .int a2] [(c_h, .inr (0, [.ref c_kinds_a, .ref c_seating_a, .ref c_knows_a, .ref c_seals_a, .ref c_telling_a, .int c_persons, .int c_wax, .int c_week, .int c_day, .int c_draw])), (c_seating_a, .inl (cI, 6, .inl c_seating))] r0 [(c_h, .inr (0, [.ref c_kinds_a, .ref c_seating_a, .ref c_knows_a, .ref c_seals_a, .ref c_telling_a, .int c_persons, .int c_wax, .int c_week, .int c_day, .int c_draw])), (c_seating_a, .inl (cI, 6, .inl c_seating))] := by
  refine Met.ofW (cc := cX0_beside) (maxL := 3) (ret := (some .int)) (by decide) rfl ?_
  intro p e s m args below meth c s₁ B hml hv
  obtain ⟨rfl, hsz, hN, hP, hK, hD0⟩ := hv
  subst hsz
  have hl := lv_entry ([.ref c_h, .int a1, .int a2]) (n := 3) (Nat.le_of_ble_eq_true rfl)
  rw [lg_entry_eq]
  generalize (lg_sl ([.ref c_h, .int a1, .int a2]) ++ List.replicate (3 - (lg_sl ([.ref c_h, .int a1, .int a2])).length) Slot.unset).toArray = ls at hl ⊢
  exact kwX0_beside B.exec B.bytes hml (findClass_of_methodNamed B.named) (atoms_spec (ws := wsX0_beside) B.pre) hN hK (fun q h => Or.inr h) (by decide) (by decide) ⟨Nat.zero_le _, Nat.zero_le _⟩ c_h c_kinds_a c_seating_a c_knows_a c_seals_a c_telling_a c_seating c_persons c_wax c_week c_day c_draw a1 a2 F r0 hM _ _ _ hl hP hD0.self va_S.rf (fun H1 locs1 ls1 pc1 hd hP hD hS => W.iret (v := r0) B.exec B.bytes B.returns (fun t ht hW => ⟨⟨r0, (), rfl, rfl, by rw [ht]; exact hP, hD⟩, hS.F ht⟩) hS.2.2 hd)

def fnX4_byteOf (F : Nat) (a1 : Int32) : Option (Int64) :=
  (some (((1 : Int64) <<< ((((8 : Int32) * a1)).toInt64 &&& 63))))
set_option maxHeartbeats 4000000 in
set_option maxRecDepth 100000 in
theorem kwX4_byteOf {p : Program} {l : Launch} {e : Env} {R : Room} {s : State} {m : MethodId} {args : Array Value} {below : List Frame} {meth : Method} {c : Code} {cells slots : Nat} {Q : State → Prop} {A : Nat → Prop} {H0 : Heap} {D : va_G} {cI cJ cS : ClassId} (hx : p.tables.exec = Jvm.exec) (hb : c.code = cX4_byteOf) (hml : c.maxLocals = 1) (hown : s.vm.findClass RX4 = some m.cls) (hts : ∀ w ∈ wsX4_byteOf, w.before args s = true) (hN : sx_N s) (hK : va_K D vwCl (sx_T cI cJ cS) s) (hA : ∀ q, H0.size ≤ q → A q) (hRf : 0 ≤ R.frames) (hRl : 0 ≤ R.locals) (hRc : cells ≤ R.cells ∧ slots ≤ R.slots) (a1 : Int32) (F : Nat) (r0 : Int64) (hM : fnX4_byteOf F a1 = some r0) (H : Heap) (locs : List Loc) (ls : Array Slot) (hl : lv_has ls 1 [(0, .int a1)]) (hP : va_P D vwCl [] H) (hD : va_D A []) (hS : va_S A H0 H locs)
    (hret : ∀ (H1 : Heap) (locs1 : List Loc) (ls1 : Array Slot) (pc1 : Nat), decode cX4_byteOf pc1 = .ok (.lreturn, 1) → va_P D vwCl [] H1 → va_D A [] → va_S A H0 H1 locs1 → W p l e R s m args below meth c H1 locs1 cells slots Q (F0 m pc1 ls1 [.long r0])) : W p l e R s m args below meth c H locs cells slots Q (F0 m 0 ls []) := by
  unfold fnX4_byteOf at hM
  refine lv_lconst (v := 1) hx hb dX4_byteOf_0 (by decide) ?_
  refine lv_bipush (v := 8) hx hb dX4_byteOf_1 (by decide) ?_
  refine lv_iload_n hx hb dX4_byteOf_3 rfl (lv_at hl 0 rfl) ?_
  refine lv_imul hx hb dX4_byteOf_4 ?_
  refine lv_lshl hx hb dX4_byteOf_5 rfl ?_
  cases hM
  exact hret _ _ _ _ dX4_byteOf_6 (hP.sub [] rfl) (hD.sub [] (by decide) rfl) hS
set_option maxHeartbeats 4000000 in
set_option maxRecDepth 100000 in
theorem mtX4_byteOf (l : Launch) (D : va_G) (cI cJ cS : ClassId) (sz : Nat) (a1 : Int32) (F : Nat) (r0 : Int64) (hM : fnX4_byteOf F a1 = some r0) : sx_ML l yX4_byteOf wsX4_byteOf ({ frames := 0, cells := 0, slots := 0, locals := 0 }) D (sx_T cI cJ cS) sz [.int a1] [] r0 [] := by
  refine Met.ofW (cc := cX4_byteOf) (maxL := 1) (ret := (some .long)) (by decide) rfl ?_
  intro p e s m args below meth c s₁ B hml hv
  obtain ⟨rfl, hsz, hN, hP, hK, hD0⟩ := hv
  subst hsz
  have hl := lv_entry ([.int a1]) (n := 1) (Nat.le_of_ble_eq_true rfl)
  rw [lg_entry_eq]
  generalize (lg_sl ([.int a1]) ++ List.replicate (1 - (lg_sl ([.int a1])).length) Slot.unset).toArray = ls at hl ⊢
  exact kwX4_byteOf B.exec B.bytes hml (findClass_of_methodNamed B.named) (atoms_spec (ws := wsX4_byteOf) B.pre) hN hK (fun q h => Or.inr h) (by decide) (by decide) ⟨Nat.zero_le _, Nat.zero_le _⟩ a1 F r0 hM _ _ _ hl hP hD0.self va_S.rf (fun H1 locs1 ls1 pc1 hd hP hD hS => W.lret (v := r0) B.exec B.bytes B.returns (fun t ht hW => ⟨⟨r0, (), rfl, rfl, by rw [ht]; exact hP, hD⟩, hS.F ht⟩) hS.2.2 hd)

def fnX0_learn (F : Nat) (c_knows : Nat → Int64) (c_seals : Nat → Int64) (a1 : Int32) (a2 : Int32) (a3 : Int32) : Option ((Nat → Int64) × (Nat → Int64)) :=
  sx_c1 (fnX4_byteOf F a2) (fun (r1 : Int64) => sx_gd (sx_ib a1 6) (sx_gd (sx_ib a1 6) (sx_gd (sx_ib a1 6) (sx_gd (sx_ib a1 6) ((some ((vp_updL c_knows (a1).toNatClampNeg ((c_knows (a1).toNatClampNeg) ||| r1)), (vp_updL c_seals (a1).toNatClampNeg (((c_seals (a1).toNatClampNeg) &&& ((r1 * (127 : Int64)) ^^^ (-1 : Int64))) ||| (r1 * (a3).toInt64))))))))))
set_option maxHeartbeats 4000000 in
set_option maxRecDepth 100000 in
theorem kwX0_learn {p : Program} {l : Launch} {e : Env} {R : Room} {s : State} {m : MethodId} {args : Array Value} {below : List Frame} {meth : Method} {c : Code} {cells slots : Nat} {Q : State → Prop} {A : Nat → Prop} {H0 : Heap} {D : va_G} {cI cJ cS : ClassId} (hx : p.tables.exec = Jvm.exec) (hb : c.code = cX0_learn) (hml : c.maxLocals = 6) (hown : s.vm.findClass RX0 = some m.cls) (hts : ∀ w ∈ wsX0_learn, w.before args s = true) (hN : sx_N s) (hK : va_K D vwCl (sx_T cI cJ cS) s) (hA : ∀ q, H0.size ≤ q → A q) (hRf : 1 ≤ R.frames) (hRl : 20 ≤ R.locals) (hRc : cells ≤ R.cells ∧ slots ≤ R.slots) (c_h c_kinds_a c_seating_a c_knows_a c_seals_a c_telling_a : Nat) (c_knows : Nat → Int64) (c_seals : Nat → Int64) (c_persons : Int32) (c_wax : Int32) (c_week : Int32) (c_day : Int32) (c_draw : Int32) (a1 : Int32) (a2 : Int32) (a3 : Int32) (F : Nat) (w_c_knows : Nat → Int64) (w_c_seals : Nat → Int64) (hM : fnX0_learn F c_knows c_seals a1 a2 a3 = some (w_c_knows, w_c_seals)) (H : Heap) (locs : List Loc) (ls : Array Slot) (hl : lv_has ls 6 [(0, .ref c_h), (1, .int a1), (2, .int a2), (3, .int a3)]) (hP : va_P D vwCl [(c_h, .inr (0, [.ref c_kinds_a, .ref c_seating_a, .ref c_knows_a, .ref c_seals_a, .ref c_telling_a, .int c_persons, .int c_wax, .int c_week, .int c_day, .int c_draw])), (c_knows_a, .inl (cJ, 6, .inr (.inl c_knows))), (c_seals_a, .inl (cJ, 6, .inr (.inl c_seals)))] H) (hD : va_D A [(c_h, .inr (0, [.ref c_kinds_a, .ref c_seating_a, .ref c_knows_a, .ref c_seals_a, .ref c_telling_a, .int c_persons, .int c_wax, .int c_week, .int c_day, .int c_draw])), (c_knows_a, .inl (cJ, 6, .inr (.inl c_knows))), (c_seals_a, .inl (cJ, 6, .inr (.inl c_seals)))]) (hS : va_S A H0 H locs)
    (hret : ∀ (H1 : Heap) (locs1 : List Loc) (ls1 : Array Slot) (pc1 : Nat), decode cX0_learn pc1 = .ok (.return_, 1) → va_P D vwCl [(c_h, .inr (0, [.ref c_kinds_a, .ref c_seating_a, .ref c_knows_a, .ref c_seals_a, .ref c_telling_a, .int c_persons, .int c_wax, .int c_week, .int c_day, .int c_draw])), (c_knows_a, .inl (cJ, 6, .inr (.inl w_c_knows))), (c_seals_a, .inl (cJ, 6, .inr (.inl w_c_seals)))] H1 → va_D A [(c_h, .inr (0, [.ref c_kinds_a, .ref c_seating_a, .ref c_knows_a, .ref c_seals_a, .ref c_telling_a, .int c_persons, .int c_wax, .int c_week, .int c_day, .int c_draw])), (c_knows_a, .inl (cJ, 6, .inr (.inl w_c_knows))), (c_seals_a, .inl (cJ, 6, .inr (.inl w_c_seals)))] → va_S A H0 H1 locs1 → W p l e R s m args below meth c H1 locs1 cells slots Q (F0 m pc1 ls1 [])) : W p l e R s m args below meth c H locs cells slots Q (F0 m 0 ls []) := by
  have hf_18 := hts (.fieldLink RX0 18 "SealedLips$Court" "knows" "[J") (by decide +kernel)
  have hf_22 := hts (.fieldLink RX0 22 "SealedLips$Court" "seals" "[J") (by decide +kernel)
  have hin_X0 : ∀ w ∈ wsX00, w ∈ wsX0_learn := by decide +kernel
  unfold fnX0_learn at hM
  refine lv_iload_n hx hb dX0_learn_0 rfl (lv_at hl 2 rfl) ?_
  obtain ⟨r1, hc2, hM⟩ := sx_c1_s hM
  refine sx_lSN (As := [.int a2]) (rest := []) (wc := []) (wr := [(c_h, .inr (0, [.ref c_kinds_a, .ref c_seating_a, .ref c_knows_a, .ref c_seals_a, .ref c_telling_a, .int c_persons, .int c_wax, .int c_week, .int c_day, .int c_draw])), (c_knows_a, .inl (cJ, 6, .inr (.inl c_knows))), (c_seals_a, .inl (cJ, 6, .inr (.inl c_seals)))]) (w1 := []) ⟨hx, hb, hml, hown, hts⟩ (mtX4_byteOf l D cI cJ cS H.size a2 F r1 hc2) ⟨va_cnB (host := "SealedLips") 1 hts gX0_learn_X4_byteOf_n57 rfl rfl rfl (hN (.methodLinkNest "SealedLips$Court" 57 ⟨"SealedLips", "byteOf", "(I)J"⟩ "SealedLips") (by decide +kernel)) (hts (.initialized RX4) (by decide +kernel)) (by decide +kernel) ⟨Nat.le_trans (by decide) hRf, Nat.le_trans (by decide) hRl⟩, hts (.static yX4_byteOf) (by decide +kernel), trivial⟩ hK hN hP hD hS hA [] [0, 1, 2] rfl (by decide) rfl (by decide) (by decide) rfl hl.1 rfl (Nat.le_of_ble_eq_true rfl) dX0_learn_1 hRc (fun H locs hP hD hS => ?_)
  have hP : va_P D vwCl [(c_h, .inr (0, [.ref c_kinds_a, .ref c_seating_a, .ref c_knows_a, .ref c_seals_a, .ref c_telling_a, .int c_persons, .int c_wax, .int c_week, .int c_day, .int c_draw])), (c_knows_a, .inl (cJ, 6, .inr (.inl c_knows))), (c_seals_a, .inl (cJ, 6, .inr (.inl c_seals)))] H := hP
  have hD : va_D A [(c_h, .inr (0, [.ref c_kinds_a, .ref c_seating_a, .ref c_knows_a, .ref c_seals_a, .ref c_telling_a, .int c_persons, .int c_wax, .int c_week, .int c_day, .int c_draw])), (c_knows_a, .inl (cJ, 6, .inr (.inl c_knows))), (c_seals_a, .inl (cJ, 6, .inr (.inl c_seals)))] := hD
  refine lv_lstore (lv' := [(4, .long r1), (0, .ref c_h), (1, .int a1), (2, .int a2), (3, .int a3)]) hx hb dX0_learn_4 hl (by decide) rfl (fun ls hl => ?_)
  refine lv_aload_n hx hb dX0_learn_6 rfl (lv_at hl 1 rfl) ?_
  refine va_get (D := D) (ci := 0) (v := .ref c_knows_a) (C := RX0) (T := TX0) (N := 10) hx hb hts hin_X0 hown hK hP 0 rfl rfl 2 (by decide) hf_18 (fun _ h9 => h9) rfl dX0_learn_7 ?_
  refine lv_iload_n hx hb dX0_learn_10 rfl (lv_at hl 2 rfl) ?_
  refine lv_dup2_11 hx hb dX0_learn_11 rfl rfl ?_
  obtain ⟨g3, hM⟩ := sx_gd_s hM
  refine va_lald hx hb hK hP 1 1 rfl rfl (sx_ib_s g3) dX0_learn_12 ?_
  refine lv_lload hx hb dX0_learn_13 (lv_at hl 0 rfl) ?_
  refine lv_lor hx hb dX0_learn_15 ?_
  obtain ⟨g4, hM⟩ := sx_gd_s hM
  refine va_last hx hb hK hP hD hS 1 1 rfl rfl (sx_ib_s g4) dX0_learn_16 (fun H locs hP hD hS => ?_)
  have hP : va_P D vwCl [(c_h, .inr (0, [.ref c_kinds_a, .ref c_seating_a, .ref c_knows_a, .ref c_seals_a, .ref c_telling_a, .int c_persons, .int c_wax, .int c_week, .int c_day, .int c_draw])), (c_knows_a, .inl (cJ, 6, .inr (.inl (vp_updL c_knows (a1).toNatClampNeg ((c_knows (a1).toNatClampNeg) ||| r1))))), (c_seals_a, .inl (cJ, 6, .inr (.inl c_seals)))] H := hP
  have hD : va_D A [(c_h, .inr (0, [.ref c_kinds_a, .ref c_seating_a, .ref c_knows_a, .ref c_seals_a, .ref c_telling_a, .int c_persons, .int c_wax, .int c_week, .int c_day, .int c_draw])), (c_knows_a, .inl (cJ, 6, .inr (.inl (vp_updL c_knows (a1).toNatClampNeg ((c_knows (a1).toNatClampNeg) ||| r1))))), (c_seals_a, .inl (cJ, 6, .inr (.inl c_seals)))] := hD
  refine lv_aload_n hx hb dX0_learn_17 rfl (lv_at hl 1 rfl) ?_
  refine va_get (D := D) (ci := 0) (v := .ref c_seals_a) (C := RX0) (T := TX0) (N := 10) hx hb hts hin_X0 hown hK hP 0 rfl rfl 3 (by decide) hf_22 (fun _ h9 => h9) rfl dX0_learn_18 ?_
  refine lv_iload_n hx hb dX0_learn_21 rfl (lv_at hl 2 rfl) ?_
  refine lv_aload_n hx hb dX0_learn_22 rfl (lv_at hl 1 rfl) ?_
  refine va_get (D := D) (ci := 0) (v := .ref c_seals_a) (C := RX0) (T := TX0) (N := 10) hx hb hts hin_X0 hown hK hP 0 rfl rfl 3 (by decide) hf_22 (fun _ h9 => h9) rfl dX0_learn_23 ?_
  refine lv_iload_n hx hb dX0_learn_26 rfl (lv_at hl 2 rfl) ?_
  obtain ⟨g5, hM⟩ := sx_gd_s hM
  refine va_lald hx hb hK hP 2 1 rfl rfl (sx_ib_s g5) dX0_learn_27 ?_
  refine lv_lload hx hb dX0_learn_28 (lv_at hl 0 rfl) ?_
  refine lv_ldc2 (v := 127) hx hb hown (hts (.constantLong RX0 61 (127)) (by decide +kernel)) dX0_learn_30 ?_
  refine lv_lmul hx hb dX0_learn_33 ?_
  refine lv_ldc2 (v := -1) hx hb hown (hts (.constantLong RX0 63 (-1)) (by decide +kernel)) dX0_learn_34 ?_
  refine lv_lxor hx hb dX0_learn_37 ?_
  refine lv_land hx hb dX0_learn_38 ?_
  refine lv_lload hx hb dX0_learn_39 (lv_at hl 0 rfl) ?_
  refine lv_iload_n hx hb dX0_learn_41 rfl (lv_at hl 4 rfl) ?_
  refine lv_i2l hx hb dX0_learn_42 rfl ?_
  refine lv_lmul hx hb dX0_learn_43 ?_
  refine lv_lor hx hb dX0_learn_44 ?_
  obtain ⟨g6, hM⟩ := sx_gd_s hM
  refine va_last hx hb hK hP hD hS 2 1 rfl rfl (sx_ib_s g6) dX0_learn_45 (fun H locs hP hD hS => ?_)
  have hP : va_P D vwCl [(c_h, .inr (0, [.ref c_kinds_a, .ref c_seating_a, .ref c_knows_a, .ref c_seals_a, .ref c_telling_a, .int c_persons, .int c_wax, .int c_week, .int c_day, .int c_draw])), (c_knows_a, .inl (cJ, 6, .inr (.inl (vp_updL c_knows (a1).toNatClampNeg ((c_knows (a1).toNatClampNeg) ||| r1))))), (c_seals_a, .inl (cJ, 6, .inr (.inl (vp_updL c_seals (a1).toNatClampNeg (((c_seals (a1).toNatClampNeg) &&& ((r1 * (127 : Int64)) ^^^ (-1 : Int64))) ||| (r1 * (a3).toInt64))))))] H := hP
  have hD : va_D A [(c_h, .inr (0, [.ref c_kinds_a, .ref c_seating_a, .ref c_knows_a, .ref c_seals_a, .ref c_telling_a, .int c_persons, .int c_wax, .int c_week, .int c_day, .int c_draw])), (c_knows_a, .inl (cJ, 6, .inr (.inl (vp_updL c_knows (a1).toNatClampNeg ((c_knows (a1).toNatClampNeg) ||| r1))))), (c_seals_a, .inl (cJ, 6, .inr (.inl (vp_updL c_seals (a1).toNatClampNeg (((c_seals (a1).toNatClampNeg) &&& ((r1 * (127 : Int64)) ^^^ (-1 : Int64))) ||| (r1 * (a3).toInt64))))))] := hD
  cases hM
  exact hret _ _ _ _ dX0_learn_46 (hP.sub [0, 1, 2] rfl) (hD.sub [0, 1, 2] (by decide) rfl) hS
set_option maxHeartbeats 4000000 in
set_option maxRecDepth 100000 in
theorem mtX0_learn (l : Launch) (D : va_G) (cI cJ cS : ClassId) (sz : Nat) (c_h c_kinds_a c_seating_a c_knows_a c_seals_a c_telling_a : Nat) (c_knows : Nat → Int64) (c_seals : Nat → Int64) (c_persons : Int32) (c_wax : Int32) (c_week : Int32) (c_day : Int32) (c_draw : Int32) (a1 : Int32) (a2 : Int32) (a3 : Int32) (F : Nat) (w_c_knows : Nat → Int64) (w_c_seals : Nat → Int64) (hM : fnX0_learn F c_knows c_seals a1 a2 a3 = some (w_c_knows, w_c_seals)) : sx_MV l yX0_learn wsX0_learn ({ frames := 1, cells := 0, slots := 0, locals := 20 }) D (sx_T cI cJ cS) sz [.ref c_h, .int a1, .int a2, .int a3] [(c_h, .inr (0, [.ref c_kinds_a, .ref c_seating_a, .ref c_knows_a, .ref c_seals_a, .ref c_telling_a, .int c_persons, .int c_wax, .int c_week, .int c_day, .int c_draw])), (c_knows_a, .inl (cJ, 6, .inr (.inl c_knows))), (c_seals_a, .inl (cJ, 6, .inr (.inl c_seals)))] [(c_h, .inr (0, [.ref c_kinds_a, .ref c_seating_a, .ref c_knows_a, .ref c_seals_a, .ref c_telling_a, .int c_persons, .int c_wax, .int c_week, .int c_day, .int c_draw])), (c_knows_a, .inl (cJ, 6, .inr (.inl w_c_knows))), (c_seals_a, .inl (cJ, 6, .inr (.inl w_c_seals)))] := by
  refine Met.ofW (cc := cX0_learn) (maxL := 6) (ret := none) (by decide) rfl ?_
  intro p e s m args below meth c s₁ B hml hv
  obtain ⟨rfl, hsz, hN, hP, hK, hD0⟩ := hv
  subst hsz
  have hl := lv_entry ([.ref c_h, .int a1, .int a2, .int a3]) (n := 6) (Nat.le_of_ble_eq_true rfl)
  rw [lg_entry_eq]
  generalize (lg_sl ([.ref c_h, .int a1, .int a2, .int a3]) ++ List.replicate (6 - (lg_sl ([.ref c_h, .int a1, .int a2, .int a3])).length) Slot.unset).toArray = ls at hl ⊢
  exact kwX0_learn B.exec B.bytes hml (findClass_of_methodNamed B.named) (atoms_spec (ws := wsX0_learn) B.pre) hN hK (fun q h => Or.inr h) (by decide) (by decide) ⟨Nat.zero_le _, Nat.zero_le _⟩ c_h c_kinds_a c_seating_a c_knows_a c_seals_a c_telling_a c_knows c_seals c_persons c_wax c_week c_day c_draw a1 a2 a3 F w_c_knows w_c_seals hM _ _ _ hl hP hD0.self va_S.rf (fun H1 locs1 ls1 pc1 hd hP hD hS => W.vret B.exec B.bytes B.returns (fun t ht hW => ⟨⟨(), rfl, trivial, by rw [ht]; exact hP, hD⟩, hS.F ht⟩) hS.2.2 hd)

def fnX0_become (F : Nat) (c_kinds : Nat → Int32) (c_seating : Nat → Int32) (c_knows : Nat → Int64) (c_seals : Nat → Int64) (c_persons : Int32) (c_wax : Int32) (c_week : Int32) (c_day : Int32) (c_draw : Int32) (o_kinds : Nat → Int32) (o_seating : Nat → Int32) (o_knows : Nat → Int64) (o_seals : Nat → Int64) (o_persons : Int32) (o_wax : Int32) (o_week : Int32) (o_day : Int32) (o_draw : Int32) : Option ((Nat → Int32) × (Nat → Int32) × (Nat → Int64) × (Nat → Int64) × Int32 × Int32 × Int32 × Int32 × Int32) :=
  sx_gd (sx_cp (0 : Int32) (0 : Int32) (6 : Int32) 6 6) (sx_gd (sx_cp (0 : Int32) (0 : Int32) (6 : Int32) 6 6) (sx_gd (sx_cp (0 : Int32) (0 : Int32) (6 : Int32) 6 6) (sx_gd (sx_cp (0 : Int32) (0 : Int32) (6 : Int32) 6 6) ((some ((va_cpy o_kinds c_kinds ((0 : Int32)).toNatClampNeg ((0 : Int32)).toNatClampNeg ((6 : Int32)).toNatClampNeg), (va_cpy o_seating c_seating ((0 : Int32)).toNatClampNeg ((0 : Int32)).toNatClampNeg ((6 : Int32)).toNatClampNeg), (va_cpy o_knows c_knows ((0 : Int32)).toNatClampNeg ((0 : Int32)).toNatClampNeg ((6 : Int32)).toNatClampNeg), (va_cpy o_seals c_seals ((0 : Int32)).toNatClampNeg ((0 : Int32)).toNatClampNeg ((6 : Int32)).toNatClampNeg), o_persons, o_wax, o_week, o_day, o_draw))))))
set_option maxHeartbeats 4000000 in
set_option maxRecDepth 100000 in
theorem kwX0_become {p : Program} {l : Launch} {e : Env} {R : Room} {s : State} {m : MethodId} {args : Array Value} {below : List Frame} {meth : Method} {c : Code} {cells slots : Nat} {Q : State → Prop} {A : Nat → Prop} {H0 : Heap} {D : va_G} {cI cJ cS : ClassId} (hx : p.tables.exec = Jvm.exec) (hb : c.code = cX0_become) (hml : c.maxLocals = 2) (hown : s.vm.findClass RX0 = some m.cls) (hts : ∀ w ∈ wsX0_become, w.before args s = true) (hN : sx_N s) (hK : va_K D vwCl (sx_T cI cJ cS) s) (hA : ∀ q, H0.size ≤ q → A q) (hRf : 1 ≤ R.frames) (hRl : 26 ≤ R.locals) (hRc : cells ≤ R.cells ∧ slots ≤ R.slots) (c_h c_kinds_a c_seating_a c_knows_a c_seals_a c_telling_a o_h o_kinds_a o_seating_a o_knows_a o_seals_a o_telling_a : Nat) (c_kinds : Nat → Int32) (c_seating : Nat → Int32) (c_knows : Nat → Int64) (c_seals : Nat → Int64) (c_persons : Int32) (c_wax : Int32) (c_week : Int32) (c_day : Int32) (c_draw : Int32) (o_kinds : Nat → Int32) (o_seating : Nat → Int32) (o_knows : Nat → Int64) (o_seals : Nat → Int64) (o_persons : Int32) (o_wax : Int32) (o_week : Int32) (o_day : Int32) (o_draw : Int32) (F : Nat) (w_c_kinds : Nat → Int32) (w_c_seating : Nat → Int32) (w_c_knows : Nat → Int64) (w_c_seals : Nat → Int64) (w_c_persons : Int32) (w_c_wax : Int32) (w_c_week : Int32) (w_c_day : Int32) (w_c_draw : Int32) (hM : fnX0_become F c_kinds c_seating c_knows c_seals c_persons c_wax c_week c_day c_draw o_kinds o_seating o_knows o_seals o_persons o_wax o_week o_day o_draw = some (w_c_kinds, w_c_seating, w_c_knows, w_c_seals, w_c_persons, w_c_wax, w_c_week, w_c_day, w_c_draw)) (H : Heap) (locs : List Loc) (ls : Array Slot) (hl : lv_has ls 2 [(0, .ref c_h), (1, .ref o_h)]) (hP : va_P D vwCl [(c_h, .inr (0, [.ref c_kinds_a, .ref c_seating_a, .ref c_knows_a, .ref c_seals_a, .ref c_telling_a, .int c_persons, .int c_wax, .int c_week, .int c_day, .int c_draw])), (c_kinds_a, .inl (cI, 6, .inl c_kinds)), (c_seating_a, .inl (cI, 6, .inl c_seating)), (c_knows_a, .inl (cJ, 6, .inr (.inl c_knows))), (c_seals_a, .inl (cJ, 6, .inr (.inl c_seals))), (o_h, .inr (0, [.ref o_kinds_a, .ref o_seating_a, .ref o_knows_a, .ref o_seals_a, .ref o_telling_a, .int o_persons, .int o_wax, .int o_week, .int o_day, .int o_draw])), (o_kinds_a, .inl (cI, 6, .inl o_kinds)), (o_seating_a, .inl (cI, 6, .inl o_seating)), (o_knows_a, .inl (cJ, 6, .inr (.inl o_knows))), (o_seals_a, .inl (cJ, 6, .inr (.inl o_seals)))] H) (hD : va_D A [(c_h, .inr (0, [.ref c_kinds_a, .ref c_seating_a, .ref c_knows_a, .ref c_seals_a, .ref c_telling_a, .int c_persons, .int c_wax, .int c_week, .int c_day, .int c_draw])), (c_kinds_a, .inl (cI, 6, .inl c_kinds)), (c_seating_a, .inl (cI, 6, .inl c_seating)), (c_knows_a, .inl (cJ, 6, .inr (.inl c_knows))), (c_seals_a, .inl (cJ, 6, .inr (.inl c_seals))), (o_h, .inr (0, [.ref o_kinds_a, .ref o_seating_a, .ref o_knows_a, .ref o_seals_a, .ref o_telling_a, .int o_persons, .int o_wax, .int o_week, .int o_day, .int o_draw])), (o_kinds_a, .inl (cI, 6, .inl o_kinds)), (o_seating_a, .inl (cI, 6, .inl o_seating)), (o_knows_a, .inl (cJ, 6, .inr (.inl o_knows))), (o_seals_a, .inl (cJ, 6, .inr (.inl o_seals)))]) (hS : va_S A H0 H locs)
    (hret : ∀ (H1 : Heap) (locs1 : List Loc) (ls1 : Array Slot) (pc1 : Nat), decode cX0_become pc1 = .ok (.return_, 1) → va_P D vwCl [(c_h, .inr (0, [.ref c_kinds_a, .ref c_seating_a, .ref c_knows_a, .ref c_seals_a, .ref c_telling_a, .int w_c_persons, .int w_c_wax, .int w_c_week, .int w_c_day, .int w_c_draw])), (c_kinds_a, .inl (cI, 6, .inl w_c_kinds)), (c_seating_a, .inl (cI, 6, .inl w_c_seating)), (c_knows_a, .inl (cJ, 6, .inr (.inl w_c_knows))), (c_seals_a, .inl (cJ, 6, .inr (.inl w_c_seals))), (o_h, .inr (0, [.ref o_kinds_a, .ref o_seating_a, .ref o_knows_a, .ref o_seals_a, .ref o_telling_a, .int o_persons, .int o_wax, .int o_week, .int o_day, .int o_draw])), (o_kinds_a, .inl (cI, 6, .inl o_kinds)), (o_seating_a, .inl (cI, 6, .inl o_seating)), (o_knows_a, .inl (cJ, 6, .inr (.inl o_knows))), (o_seals_a, .inl (cJ, 6, .inr (.inl o_seals)))] H1 → va_D A [(c_h, .inr (0, [.ref c_kinds_a, .ref c_seating_a, .ref c_knows_a, .ref c_seals_a, .ref c_telling_a, .int w_c_persons, .int w_c_wax, .int w_c_week, .int w_c_day, .int w_c_draw])), (c_kinds_a, .inl (cI, 6, .inl w_c_kinds)), (c_seating_a, .inl (cI, 6, .inl w_c_seating)), (c_knows_a, .inl (cJ, 6, .inr (.inl w_c_knows))), (c_seals_a, .inl (cJ, 6, .inr (.inl w_c_seals))), (o_h, .inr (0, [.ref o_kinds_a, .ref o_seating_a, .ref o_knows_a, .ref o_seals_a, .ref o_telling_a, .int o_persons, .int o_wax, .int o_week, .int o_day, .int o_draw])), (o_kinds_a, .inl (cI, 6, .inl o_kinds)), (o_seating_a, .inl (cI, 6, .inl o_seating)), (o_knows_a, .inl (cJ, 6, .inr (.inl o_knows))), (o_seals_a, .inl (cJ, 6, .inr (.inl o_seals)))] → va_S A H0 H1 locs1 → W p l e R s m args below meth c H1 locs1 cells slots Q (F0 m pc1 ls1 [])) : W p l e R s m args below meth c H locs cells slots Q (F0 m 0 ls []) := by
  have hf_9 := hts (.fieldLink RX0 9 "SealedLips$Court" "kinds" "[I") (by decide +kernel)
  have hf_15 := hts (.fieldLink RX0 15 "SealedLips$Court" "seating" "[I") (by decide +kernel)
  have hf_18 := hts (.fieldLink RX0 18 "SealedLips$Court" "knows" "[J") (by decide +kernel)
  have hf_22 := hts (.fieldLink RX0 22 "SealedLips$Court" "seals" "[J") (by decide +kernel)
  have hf_28 := hts (.fieldLink RX0 28 "SealedLips$Court" "wax" "I") (by decide +kernel)
  have hf_32 := hts (.fieldLink RX0 32 "SealedLips$Court" "week" "I") (by decide +kernel)
  have hf_35 := hts (.fieldLink RX0 35 "SealedLips$Court" "draw" "I") (by decide +kernel)
  have hf_44 := hts (.fieldLink RX0 44 "SealedLips$Court" "persons" "I") (by decide +kernel)
  have hf_47 := hts (.fieldLink RX0 47 "SealedLips$Court" "day" "I") (by decide +kernel)
  have hin_X0 : ∀ w ∈ wsX00, w ∈ wsX0_become := by decide +kernel
  unfold fnX0_become at hM
  refine lv_aload_n hx hb dX0_become_0 rfl (lv_at hl 1 rfl) ?_
  refine va_get (D := D) (ci := 0) (v := .ref o_kinds_a) (C := RX0) (T := TX0) (N := 10) hx hb hts hin_X0 hown hK hP 5 rfl rfl 0 (by decide) hf_9 (fun _ h9 => h9) rfl dX0_become_1 ?_
  refine lv_iconst (v := 0) hx hb dX0_become_4 (by decide) ?_
  refine lv_aload_n hx hb dX0_become_5 rfl (lv_at hl 0 rfl) ?_
  refine va_get (D := D) (ci := 0) (v := .ref c_kinds_a) (C := RX0) (T := TX0) (N := 10) hx hb hts hin_X0 hown hK hP 0 rfl rfl 0 (by decide) hf_9 (fun _ h9 => h9) rfl dX0_become_6 ?_
  refine lv_iconst (v := 0) hx hb dX0_become_9 (by decide) ?_
  refine lv_bipush (v := 6) hx hb dX0_become_10 (by decide) ?_
  obtain ⟨g1, hM⟩ := sx_gd_s hM
  replace g1 := sx_cp_s g1
  refine va_copyi hx hb (hml.trans hl.1.symm) hown (hts (.methodLink RX0 38 arraycopyName) (by decide +kernel)) (hts (.native arraycopyName) (by decide +kernel)) (hts (.static arraycopyName) (by decide +kernel)) (hts (.initialized "java/lang/System") (by decide +kernel)) hK hP hD hS 6 1 0 0 rfl rfl rfl rfl rfl g1.1 g1.2.1 g1.2.2.1 g1.2.2.2.1 g1.2.2.2.2 (fun _ _ => rfl) (Nat.le_trans (by decide) hRf) (Nat.le_trans (by decide) hRl) dX0_become_12 (fun H locs hP hD hS => ?_)
  have hP : va_P D vwCl [(c_h, .inr (0, [.ref c_kinds_a, .ref c_seating_a, .ref c_knows_a, .ref c_seals_a, .ref c_telling_a, .int c_persons, .int c_wax, .int c_week, .int c_day, .int c_draw])), (c_kinds_a, .inl (cI, 6, .inl (va_cpy o_kinds c_kinds ((0 : Int32)).toNatClampNeg ((0 : Int32)).toNatClampNeg ((6 : Int32)).toNatClampNeg))), (c_seating_a, .inl (cI, 6, .inl c_seating)), (c_knows_a, .inl (cJ, 6, .inr (.inl c_knows))), (c_seals_a, .inl (cJ, 6, .inr (.inl c_seals))), (o_h, .inr (0, [.ref o_kinds_a, .ref o_seating_a, .ref o_knows_a, .ref o_seals_a, .ref o_telling_a, .int o_persons, .int o_wax, .int o_week, .int o_day, .int o_draw])), (o_kinds_a, .inl (cI, 6, .inl o_kinds)), (o_seating_a, .inl (cI, 6, .inl o_seating)), (o_knows_a, .inl (cJ, 6, .inr (.inl o_knows))), (o_seals_a, .inl (cJ, 6, .inr (.inl o_seals)))] H := hP
  have hD : va_D A [(c_h, .inr (0, [.ref c_kinds_a, .ref c_seating_a, .ref c_knows_a, .ref c_seals_a, .ref c_telling_a, .int c_persons, .int c_wax, .int c_week, .int c_day, .int c_draw])), (c_kinds_a, .inl (cI, 6, .inl (va_cpy o_kinds c_kinds ((0 : Int32)).toNatClampNeg ((0 : Int32)).toNatClampNeg ((6 : Int32)).toNatClampNeg))), (c_seating_a, .inl (cI, 6, .inl c_seating)), (c_knows_a, .inl (cJ, 6, .inr (.inl c_knows))), (c_seals_a, .inl (cJ, 6, .inr (.inl c_seals))), (o_h, .inr (0, [.ref o_kinds_a, .ref o_seating_a, .ref o_knows_a, .ref o_seals_a, .ref o_telling_a, .int o_persons, .int o_wax, .int o_week, .int o_day, .int o_draw])), (o_kinds_a, .inl (cI, 6, .inl o_kinds)), (o_seating_a, .inl (cI, 6, .inl o_seating)), (o_knows_a, .inl (cJ, 6, .inr (.inl o_knows))), (o_seals_a, .inl (cJ, 6, .inr (.inl o_seals)))] := hD
  refine lv_aload_n hx hb dX0_become_15 rfl (lv_at hl 1 rfl) ?_
  refine va_get (D := D) (ci := 0) (v := .ref o_seating_a) (C := RX0) (T := TX0) (N := 10) hx hb hts hin_X0 hown hK hP 5 rfl rfl 1 (by decide) hf_15 (fun _ h9 => h9) rfl dX0_become_16 ?_
  refine lv_iconst (v := 0) hx hb dX0_become_19 (by decide) ?_
  refine lv_aload_n hx hb dX0_become_20 rfl (lv_at hl 0 rfl) ?_
  refine va_get (D := D) (ci := 0) (v := .ref c_seating_a) (C := RX0) (T := TX0) (N := 10) hx hb hts hin_X0 hown hK hP 0 rfl rfl 1 (by decide) hf_15 (fun _ h9 => h9) rfl dX0_become_21 ?_
  refine lv_iconst (v := 0) hx hb dX0_become_24 (by decide) ?_
  refine lv_bipush (v := 6) hx hb dX0_become_25 (by decide) ?_
  obtain ⟨g2, hM⟩ := sx_gd_s hM
  replace g2 := sx_cp_s g2
  refine va_copyi hx hb (hml.trans hl.1.symm) hown (hts (.methodLink RX0 38 arraycopyName) (by decide +kernel)) (hts (.native arraycopyName) (by decide +kernel)) (hts (.static arraycopyName) (by decide +kernel)) (hts (.initialized "java/lang/System") (by decide +kernel)) hK hP hD hS 7 2 0 0 rfl rfl rfl rfl rfl g2.1 g2.2.1 g2.2.2.1 g2.2.2.2.1 g2.2.2.2.2 (fun _ _ => rfl) (Nat.le_trans (by decide) hRf) (Nat.le_trans (by decide) hRl) dX0_become_27 (fun H locs hP hD hS => ?_)
  have hP : va_P D vwCl [(c_h, .inr (0, [.ref c_kinds_a, .ref c_seating_a, .ref c_knows_a, .ref c_seals_a, .ref c_telling_a, .int c_persons, .int c_wax, .int c_week, .int c_day, .int c_draw])), (c_kinds_a, .inl (cI, 6, .inl (va_cpy o_kinds c_kinds ((0 : Int32)).toNatClampNeg ((0 : Int32)).toNatClampNeg ((6 : Int32)).toNatClampNeg))), (c_seating_a, .inl (cI, 6, .inl (va_cpy o_seating c_seating ((0 : Int32)).toNatClampNeg ((0 : Int32)).toNatClampNeg ((6 : Int32)).toNatClampNeg))), (c_knows_a, .inl (cJ, 6, .inr (.inl c_knows))), (c_seals_a, .inl (cJ, 6, .inr (.inl c_seals))), (o_h, .inr (0, [.ref o_kinds_a, .ref o_seating_a, .ref o_knows_a, .ref o_seals_a, .ref o_telling_a, .int o_persons, .int o_wax, .int o_week, .int o_day, .int o_draw])), (o_kinds_a, .inl (cI, 6, .inl o_kinds)), (o_seating_a, .inl (cI, 6, .inl o_seating)), (o_knows_a, .inl (cJ, 6, .inr (.inl o_knows))), (o_seals_a, .inl (cJ, 6, .inr (.inl o_seals)))] H := hP
  have hD : va_D A [(c_h, .inr (0, [.ref c_kinds_a, .ref c_seating_a, .ref c_knows_a, .ref c_seals_a, .ref c_telling_a, .int c_persons, .int c_wax, .int c_week, .int c_day, .int c_draw])), (c_kinds_a, .inl (cI, 6, .inl (va_cpy o_kinds c_kinds ((0 : Int32)).toNatClampNeg ((0 : Int32)).toNatClampNeg ((6 : Int32)).toNatClampNeg))), (c_seating_a, .inl (cI, 6, .inl (va_cpy o_seating c_seating ((0 : Int32)).toNatClampNeg ((0 : Int32)).toNatClampNeg ((6 : Int32)).toNatClampNeg))), (c_knows_a, .inl (cJ, 6, .inr (.inl c_knows))), (c_seals_a, .inl (cJ, 6, .inr (.inl c_seals))), (o_h, .inr (0, [.ref o_kinds_a, .ref o_seating_a, .ref o_knows_a, .ref o_seals_a, .ref o_telling_a, .int o_persons, .int o_wax, .int o_week, .int o_day, .int o_draw])), (o_kinds_a, .inl (cI, 6, .inl o_kinds)), (o_seating_a, .inl (cI, 6, .inl o_seating)), (o_knows_a, .inl (cJ, 6, .inr (.inl o_knows))), (o_seals_a, .inl (cJ, 6, .inr (.inl o_seals)))] := hD
  refine lv_aload_n hx hb dX0_become_30 rfl (lv_at hl 1 rfl) ?_
  refine va_get (D := D) (ci := 0) (v := .ref o_knows_a) (C := RX0) (T := TX0) (N := 10) hx hb hts hin_X0 hown hK hP 5 rfl rfl 2 (by decide) hf_18 (fun _ h9 => h9) rfl dX0_become_31 ?_
  refine lv_iconst (v := 0) hx hb dX0_become_34 (by decide) ?_
  refine lv_aload_n hx hb dX0_become_35 rfl (lv_at hl 0 rfl) ?_
  refine va_get (D := D) (ci := 0) (v := .ref c_knows_a) (C := RX0) (T := TX0) (N := 10) hx hb hts hin_X0 hown hK hP 0 rfl rfl 2 (by decide) hf_18 (fun _ h9 => h9) rfl dX0_become_36 ?_
  refine lv_iconst (v := 0) hx hb dX0_become_39 (by decide) ?_
  refine lv_bipush (v := 6) hx hb dX0_become_40 (by decide) ?_
  obtain ⟨g3, hM⟩ := sx_gd_s hM
  replace g3 := sx_cp_s g3
  refine va_copyl hx hb (hml.trans hl.1.symm) hown (hts (.methodLink RX0 38 arraycopyName) (by decide +kernel)) (hts (.native arraycopyName) (by decide +kernel)) (hts (.static arraycopyName) (by decide +kernel)) (hts (.initialized "java/lang/System") (by decide +kernel)) hK hP hD hS 8 3 1 1 rfl rfl rfl rfl rfl g3.1 g3.2.1 g3.2.2.1 g3.2.2.2.1 g3.2.2.2.2 (fun _ _ => rfl) (Nat.le_trans (by decide) hRf) (Nat.le_trans (by decide) hRl) dX0_become_42 (fun H locs hP hD hS => ?_)
  have hP : va_P D vwCl [(c_h, .inr (0, [.ref c_kinds_a, .ref c_seating_a, .ref c_knows_a, .ref c_seals_a, .ref c_telling_a, .int c_persons, .int c_wax, .int c_week, .int c_day, .int c_draw])), (c_kinds_a, .inl (cI, 6, .inl (va_cpy o_kinds c_kinds ((0 : Int32)).toNatClampNeg ((0 : Int32)).toNatClampNeg ((6 : Int32)).toNatClampNeg))), (c_seating_a, .inl (cI, 6, .inl (va_cpy o_seating c_seating ((0 : Int32)).toNatClampNeg ((0 : Int32)).toNatClampNeg ((6 : Int32)).toNatClampNeg))), (c_knows_a, .inl (cJ, 6, .inr (.inl (va_cpy o_knows c_knows ((0 : Int32)).toNatClampNeg ((0 : Int32)).toNatClampNeg ((6 : Int32)).toNatClampNeg)))), (c_seals_a, .inl (cJ, 6, .inr (.inl c_seals))), (o_h, .inr (0, [.ref o_kinds_a, .ref o_seating_a, .ref o_knows_a, .ref o_seals_a, .ref o_telling_a, .int o_persons, .int o_wax, .int o_week, .int o_day, .int o_draw])), (o_kinds_a, .inl (cI, 6, .inl o_kinds)), (o_seating_a, .inl (cI, 6, .inl o_seating)), (o_knows_a, .inl (cJ, 6, .inr (.inl o_knows))), (o_seals_a, .inl (cJ, 6, .inr (.inl o_seals)))] H := hP
  have hD : va_D A [(c_h, .inr (0, [.ref c_kinds_a, .ref c_seating_a, .ref c_knows_a, .ref c_seals_a, .ref c_telling_a, .int c_persons, .int c_wax, .int c_week, .int c_day, .int c_draw])), (c_kinds_a, .inl (cI, 6, .inl (va_cpy o_kinds c_kinds ((0 : Int32)).toNatClampNeg ((0 : Int32)).toNatClampNeg ((6 : Int32)).toNatClampNeg))), (c_seating_a, .inl (cI, 6, .inl (va_cpy o_seating c_seating ((0 : Int32)).toNatClampNeg ((0 : Int32)).toNatClampNeg ((6 : Int32)).toNatClampNeg))), (c_knows_a, .inl (cJ, 6, .inr (.inl (va_cpy o_knows c_knows ((0 : Int32)).toNatClampNeg ((0 : Int32)).toNatClampNeg ((6 : Int32)).toNatClampNeg)))), (c_seals_a, .inl (cJ, 6, .inr (.inl c_seals))), (o_h, .inr (0, [.ref o_kinds_a, .ref o_seating_a, .ref o_knows_a, .ref o_seals_a, .ref o_telling_a, .int o_persons, .int o_wax, .int o_week, .int o_day, .int o_draw])), (o_kinds_a, .inl (cI, 6, .inl o_kinds)), (o_seating_a, .inl (cI, 6, .inl o_seating)), (o_knows_a, .inl (cJ, 6, .inr (.inl o_knows))), (o_seals_a, .inl (cJ, 6, .inr (.inl o_seals)))] := hD
  refine lv_aload_n hx hb dX0_become_45 rfl (lv_at hl 1 rfl) ?_
  refine va_get (D := D) (ci := 0) (v := .ref o_seals_a) (C := RX0) (T := TX0) (N := 10) hx hb hts hin_X0 hown hK hP 5 rfl rfl 3 (by decide) hf_22 (fun _ h9 => h9) rfl dX0_become_46 ?_
  refine lv_iconst (v := 0) hx hb dX0_become_49 (by decide) ?_
  refine lv_aload_n hx hb dX0_become_50 rfl (lv_at hl 0 rfl) ?_
  refine va_get (D := D) (ci := 0) (v := .ref c_seals_a) (C := RX0) (T := TX0) (N := 10) hx hb hts hin_X0 hown hK hP 0 rfl rfl 3 (by decide) hf_22 (fun _ h9 => h9) rfl dX0_become_51 ?_
  refine lv_iconst (v := 0) hx hb dX0_become_54 (by decide) ?_
  refine lv_bipush (v := 6) hx hb dX0_become_55 (by decide) ?_
  obtain ⟨g4, hM⟩ := sx_gd_s hM
  replace g4 := sx_cp_s g4
  refine va_copyl hx hb (hml.trans hl.1.symm) hown (hts (.methodLink RX0 38 arraycopyName) (by decide +kernel)) (hts (.native arraycopyName) (by decide +kernel)) (hts (.static arraycopyName) (by decide +kernel)) (hts (.initialized "java/lang/System") (by decide +kernel)) hK hP hD hS 9 4 1 1 rfl rfl rfl rfl rfl g4.1 g4.2.1 g4.2.2.1 g4.2.2.2.1 g4.2.2.2.2 (fun _ _ => rfl) (Nat.le_trans (by decide) hRf) (Nat.le_trans (by decide) hRl) dX0_become_57 (fun H locs hP hD hS => ?_)
  have hP : va_P D vwCl [(c_h, .inr (0, [.ref c_kinds_a, .ref c_seating_a, .ref c_knows_a, .ref c_seals_a, .ref c_telling_a, .int c_persons, .int c_wax, .int c_week, .int c_day, .int c_draw])), (c_kinds_a, .inl (cI, 6, .inl (va_cpy o_kinds c_kinds ((0 : Int32)).toNatClampNeg ((0 : Int32)).toNatClampNeg ((6 : Int32)).toNatClampNeg))), (c_seating_a, .inl (cI, 6, .inl (va_cpy o_seating c_seating ((0 : Int32)).toNatClampNeg ((0 : Int32)).toNatClampNeg ((6 : Int32)).toNatClampNeg))), (c_knows_a, .inl (cJ, 6, .inr (.inl (va_cpy o_knows c_knows ((0 : Int32)).toNatClampNeg ((0 : Int32)).toNatClampNeg ((6 : Int32)).toNatClampNeg)))), (c_seals_a, .inl (cJ, 6, .inr (.inl (va_cpy o_seals c_seals ((0 : Int32)).toNatClampNeg ((0 : Int32)).toNatClampNeg ((6 : Int32)).toNatClampNeg)))), (o_h, .inr (0, [.ref o_kinds_a, .ref o_seating_a, .ref o_knows_a, .ref o_seals_a, .ref o_telling_a, .int o_persons, .int o_wax, .int o_week, .int o_day, .int o_draw])), (o_kinds_a, .inl (cI, 6, .inl o_kinds)), (o_seating_a, .inl (cI, 6, .inl o_seating)), (o_knows_a, .inl (cJ, 6, .inr (.inl o_knows))), (o_seals_a, .inl (cJ, 6, .inr (.inl o_seals)))] H := hP
  have hD : va_D A [(c_h, .inr (0, [.ref c_kinds_a, .ref c_seating_a, .ref c_knows_a, .ref c_seals_a, .ref c_telling_a, .int c_persons, .int c_wax, .int c_week, .int c_day, .int c_draw])), (c_kinds_a, .inl (cI, 6, .inl (va_cpy o_kinds c_kinds ((0 : Int32)).toNatClampNeg ((0 : Int32)).toNatClampNeg ((6 : Int32)).toNatClampNeg))), (c_seating_a, .inl (cI, 6, .inl (va_cpy o_seating c_seating ((0 : Int32)).toNatClampNeg ((0 : Int32)).toNatClampNeg ((6 : Int32)).toNatClampNeg))), (c_knows_a, .inl (cJ, 6, .inr (.inl (va_cpy o_knows c_knows ((0 : Int32)).toNatClampNeg ((0 : Int32)).toNatClampNeg ((6 : Int32)).toNatClampNeg)))), (c_seals_a, .inl (cJ, 6, .inr (.inl (va_cpy o_seals c_seals ((0 : Int32)).toNatClampNeg ((0 : Int32)).toNatClampNeg ((6 : Int32)).toNatClampNeg)))), (o_h, .inr (0, [.ref o_kinds_a, .ref o_seating_a, .ref o_knows_a, .ref o_seals_a, .ref o_telling_a, .int o_persons, .int o_wax, .int o_week, .int o_day, .int o_draw])), (o_kinds_a, .inl (cI, 6, .inl o_kinds)), (o_seating_a, .inl (cI, 6, .inl o_seating)), (o_knows_a, .inl (cJ, 6, .inr (.inl o_knows))), (o_seals_a, .inl (cJ, 6, .inr (.inl o_seals)))] := hD
  refine lv_aload_n hx hb dX0_become_60 rfl (lv_at hl 0 rfl) ?_
  refine lv_aload_n hx hb dX0_become_61 rfl (lv_at hl 1 rfl) ?_
  refine va_get (D := D) (ci := 0) (v := .int o_persons) (C := RX0) (T := TX0) (N := 10) hx hb hts hin_X0 hown hK hP 5 rfl rfl 5 (by decide) hf_44 (fun _ h9 => h9) rfl dX0_become_62 ?_
  refine va_put (D := D) (ci := 0) (v := .int o_persons) (ty := .int) (C := RX0) (T := TX0) (N := 10) hx hb hts hin_X0 tyX0 tyX0_ok nmX0 hown hK hP hD hS 0 rfl rfl 5 (by decide) hf_44 (fun _ h9 => h9) rfl (tyX0_ok 5 (by decide)) rfl rfl (Nat.le_of_ble_eq_true rfl) dX0_become_65 (fun H locs hP hD hS => ?_)
  have hP : va_P D vwCl [(c_h, .inr (0, [.ref c_kinds_a, .ref c_seating_a, .ref c_knows_a, .ref c_seals_a, .ref c_telling_a, .int o_persons, .int c_wax, .int c_week, .int c_day, .int c_draw])), (c_kinds_a, .inl (cI, 6, .inl (va_cpy o_kinds c_kinds ((0 : Int32)).toNatClampNeg ((0 : Int32)).toNatClampNeg ((6 : Int32)).toNatClampNeg))), (c_seating_a, .inl (cI, 6, .inl (va_cpy o_seating c_seating ((0 : Int32)).toNatClampNeg ((0 : Int32)).toNatClampNeg ((6 : Int32)).toNatClampNeg))), (c_knows_a, .inl (cJ, 6, .inr (.inl (va_cpy o_knows c_knows ((0 : Int32)).toNatClampNeg ((0 : Int32)).toNatClampNeg ((6 : Int32)).toNatClampNeg)))), (c_seals_a, .inl (cJ, 6, .inr (.inl (va_cpy o_seals c_seals ((0 : Int32)).toNatClampNeg ((0 : Int32)).toNatClampNeg ((6 : Int32)).toNatClampNeg)))), (o_h, .inr (0, [.ref o_kinds_a, .ref o_seating_a, .ref o_knows_a, .ref o_seals_a, .ref o_telling_a, .int o_persons, .int o_wax, .int o_week, .int o_day, .int o_draw])), (o_kinds_a, .inl (cI, 6, .inl o_kinds)), (o_seating_a, .inl (cI, 6, .inl o_seating)), (o_knows_a, .inl (cJ, 6, .inr (.inl o_knows))), (o_seals_a, .inl (cJ, 6, .inr (.inl o_seals)))] H := hP
  have hD : va_D A [(c_h, .inr (0, [.ref c_kinds_a, .ref c_seating_a, .ref c_knows_a, .ref c_seals_a, .ref c_telling_a, .int o_persons, .int c_wax, .int c_week, .int c_day, .int c_draw])), (c_kinds_a, .inl (cI, 6, .inl (va_cpy o_kinds c_kinds ((0 : Int32)).toNatClampNeg ((0 : Int32)).toNatClampNeg ((6 : Int32)).toNatClampNeg))), (c_seating_a, .inl (cI, 6, .inl (va_cpy o_seating c_seating ((0 : Int32)).toNatClampNeg ((0 : Int32)).toNatClampNeg ((6 : Int32)).toNatClampNeg))), (c_knows_a, .inl (cJ, 6, .inr (.inl (va_cpy o_knows c_knows ((0 : Int32)).toNatClampNeg ((0 : Int32)).toNatClampNeg ((6 : Int32)).toNatClampNeg)))), (c_seals_a, .inl (cJ, 6, .inr (.inl (va_cpy o_seals c_seals ((0 : Int32)).toNatClampNeg ((0 : Int32)).toNatClampNeg ((6 : Int32)).toNatClampNeg)))), (o_h, .inr (0, [.ref o_kinds_a, .ref o_seating_a, .ref o_knows_a, .ref o_seals_a, .ref o_telling_a, .int o_persons, .int o_wax, .int o_week, .int o_day, .int o_draw])), (o_kinds_a, .inl (cI, 6, .inl o_kinds)), (o_seating_a, .inl (cI, 6, .inl o_seating)), (o_knows_a, .inl (cJ, 6, .inr (.inl o_knows))), (o_seals_a, .inl (cJ, 6, .inr (.inl o_seals)))] := hD
  refine lv_aload_n hx hb dX0_become_68 rfl (lv_at hl 0 rfl) ?_
  refine lv_aload_n hx hb dX0_become_69 rfl (lv_at hl 1 rfl) ?_
  refine va_get (D := D) (ci := 0) (v := .int o_wax) (C := RX0) (T := TX0) (N := 10) hx hb hts hin_X0 hown hK hP 5 rfl rfl 6 (by decide) hf_28 (fun _ h9 => h9) rfl dX0_become_70 ?_
  refine va_put (D := D) (ci := 0) (v := .int o_wax) (ty := .int) (C := RX0) (T := TX0) (N := 10) hx hb hts hin_X0 tyX0 tyX0_ok nmX0 hown hK hP hD hS 0 rfl rfl 6 (by decide) hf_28 (fun _ h9 => h9) rfl (tyX0_ok 6 (by decide)) rfl rfl (Nat.le_of_ble_eq_true rfl) dX0_become_73 (fun H locs hP hD hS => ?_)
  have hP : va_P D vwCl [(c_h, .inr (0, [.ref c_kinds_a, .ref c_seating_a, .ref c_knows_a, .ref c_seals_a, .ref c_telling_a, .int o_persons, .int o_wax, .int c_week, .int c_day, .int c_draw])), (c_kinds_a, .inl (cI, 6, .inl (va_cpy o_kinds c_kinds ((0 : Int32)).toNatClampNeg ((0 : Int32)).toNatClampNeg ((6 : Int32)).toNatClampNeg))), (c_seating_a, .inl (cI, 6, .inl (va_cpy o_seating c_seating ((0 : Int32)).toNatClampNeg ((0 : Int32)).toNatClampNeg ((6 : Int32)).toNatClampNeg))), (c_knows_a, .inl (cJ, 6, .inr (.inl (va_cpy o_knows c_knows ((0 : Int32)).toNatClampNeg ((0 : Int32)).toNatClampNeg ((6 : Int32)).toNatClampNeg)))), (c_seals_a, .inl (cJ, 6, .inr (.inl (va_cpy o_seals c_seals ((0 : Int32)).toNatClampNeg ((0 : Int32)).toNatClampNeg ((6 : Int32)).toNatClampNeg)))), (o_h, .inr (0, [.ref o_kinds_a, .ref o_seating_a, .ref o_knows_a, .ref o_seals_a, .ref o_telling_a, .int o_persons, .int o_wax, .int o_week, .int o_day, .int o_draw])), (o_kinds_a, .inl (cI, 6, .inl o_kinds)), (o_seating_a, .inl (cI, 6, .inl o_seating)), (o_knows_a, .inl (cJ, 6, .inr (.inl o_knows))), (o_seals_a, .inl (cJ, 6, .inr (.inl o_seals)))] H := hP
  have hD : va_D A [(c_h, .inr (0, [.ref c_kinds_a, .ref c_seating_a, .ref c_knows_a, .ref c_seals_a, .ref c_telling_a, .int o_persons, .int o_wax, .int c_week, .int c_day, .int c_draw])), (c_kinds_a, .inl (cI, 6, .inl (va_cpy o_kinds c_kinds ((0 : Int32)).toNatClampNeg ((0 : Int32)).toNatClampNeg ((6 : Int32)).toNatClampNeg))), (c_seating_a, .inl (cI, 6, .inl (va_cpy o_seating c_seating ((0 : Int32)).toNatClampNeg ((0 : Int32)).toNatClampNeg ((6 : Int32)).toNatClampNeg))), (c_knows_a, .inl (cJ, 6, .inr (.inl (va_cpy o_knows c_knows ((0 : Int32)).toNatClampNeg ((0 : Int32)).toNatClampNeg ((6 : Int32)).toNatClampNeg)))), (c_seals_a, .inl (cJ, 6, .inr (.inl (va_cpy o_seals c_seals ((0 : Int32)).toNatClampNeg ((0 : Int32)).toNatClampNeg ((6 : Int32)).toNatClampNeg)))), (o_h, .inr (0, [.ref o_kinds_a, .ref o_seating_a, .ref o_knows_a, .ref o_seals_a, .ref o_telling_a, .int o_persons, .int o_wax, .int o_week, .int o_day, .int o_draw])), (o_kinds_a, .inl (cI, 6, .inl o_kinds)), (o_seating_a, .inl (cI, 6, .inl o_seating)), (o_knows_a, .inl (cJ, 6, .inr (.inl o_knows))), (o_seals_a, .inl (cJ, 6, .inr (.inl o_seals)))] := hD
  refine lv_aload_n hx hb dX0_become_76 rfl (lv_at hl 0 rfl) ?_
  refine lv_aload_n hx hb dX0_become_77 rfl (lv_at hl 1 rfl) ?_
  refine va_get (D := D) (ci := 0) (v := .int o_week) (C := RX0) (T := TX0) (N := 10) hx hb hts hin_X0 hown hK hP 5 rfl rfl 7 (by decide) hf_32 (fun _ h9 => h9) rfl dX0_become_78 ?_
  refine va_put (D := D) (ci := 0) (v := .int o_week) (ty := .int) (C := RX0) (T := TX0) (N := 10) hx hb hts hin_X0 tyX0 tyX0_ok nmX0 hown hK hP hD hS 0 rfl rfl 7 (by decide) hf_32 (fun _ h9 => h9) rfl (tyX0_ok 7 (by decide)) rfl rfl (Nat.le_of_ble_eq_true rfl) dX0_become_81 (fun H locs hP hD hS => ?_)
  have hP : va_P D vwCl [(c_h, .inr (0, [.ref c_kinds_a, .ref c_seating_a, .ref c_knows_a, .ref c_seals_a, .ref c_telling_a, .int o_persons, .int o_wax, .int o_week, .int c_day, .int c_draw])), (c_kinds_a, .inl (cI, 6, .inl (va_cpy o_kinds c_kinds ((0 : Int32)).toNatClampNeg ((0 : Int32)).toNatClampNeg ((6 : Int32)).toNatClampNeg))), (c_seating_a, .inl (cI, 6, .inl (va_cpy o_seating c_seating ((0 : Int32)).toNatClampNeg ((0 : Int32)).toNatClampNeg ((6 : Int32)).toNatClampNeg))), (c_knows_a, .inl (cJ, 6, .inr (.inl (va_cpy o_knows c_knows ((0 : Int32)).toNatClampNeg ((0 : Int32)).toNatClampNeg ((6 : Int32)).toNatClampNeg)))), (c_seals_a, .inl (cJ, 6, .inr (.inl (va_cpy o_seals c_seals ((0 : Int32)).toNatClampNeg ((0 : Int32)).toNatClampNeg ((6 : Int32)).toNatClampNeg)))), (o_h, .inr (0, [.ref o_kinds_a, .ref o_seating_a, .ref o_knows_a, .ref o_seals_a, .ref o_telling_a, .int o_persons, .int o_wax, .int o_week, .int o_day, .int o_draw])), (o_kinds_a, .inl (cI, 6, .inl o_kinds)), (o_seating_a, .inl (cI, 6, .inl o_seating)), (o_knows_a, .inl (cJ, 6, .inr (.inl o_knows))), (o_seals_a, .inl (cJ, 6, .inr (.inl o_seals)))] H := hP
  have hD : va_D A [(c_h, .inr (0, [.ref c_kinds_a, .ref c_seating_a, .ref c_knows_a, .ref c_seals_a, .ref c_telling_a, .int o_persons, .int o_wax, .int o_week, .int c_day, .int c_draw])), (c_kinds_a, .inl (cI, 6, .inl (va_cpy o_kinds c_kinds ((0 : Int32)).toNatClampNeg ((0 : Int32)).toNatClampNeg ((6 : Int32)).toNatClampNeg))), (c_seating_a, .inl (cI, 6, .inl (va_cpy o_seating c_seating ((0 : Int32)).toNatClampNeg ((0 : Int32)).toNatClampNeg ((6 : Int32)).toNatClampNeg))), (c_knows_a, .inl (cJ, 6, .inr (.inl (va_cpy o_knows c_knows ((0 : Int32)).toNatClampNeg ((0 : Int32)).toNatClampNeg ((6 : Int32)).toNatClampNeg)))), (c_seals_a, .inl (cJ, 6, .inr (.inl (va_cpy o_seals c_seals ((0 : Int32)).toNatClampNeg ((0 : Int32)).toNatClampNeg ((6 : Int32)).toNatClampNeg)))), (o_h, .inr (0, [.ref o_kinds_a, .ref o_seating_a, .ref o_knows_a, .ref o_seals_a, .ref o_telling_a, .int o_persons, .int o_wax, .int o_week, .int o_day, .int o_draw])), (o_kinds_a, .inl (cI, 6, .inl o_kinds)), (o_seating_a, .inl (cI, 6, .inl o_seating)), (o_knows_a, .inl (cJ, 6, .inr (.inl o_knows))), (o_seals_a, .inl (cJ, 6, .inr (.inl o_seals)))] := hD
  refine lv_aload_n hx hb dX0_become_84 rfl (lv_at hl 0 rfl) ?_
  refine lv_aload_n hx hb dX0_become_85 rfl (lv_at hl 1 rfl) ?_
  refine va_get (D := D) (ci := 0) (v := .int o_day) (C := RX0) (T := TX0) (N := 10) hx hb hts hin_X0 hown hK hP 5 rfl rfl 8 (by decide) hf_47 (fun _ h9 => h9) rfl dX0_become_86 ?_
  refine va_put (D := D) (ci := 0) (v := .int o_day) (ty := .int) (C := RX0) (T := TX0) (N := 10) hx hb hts hin_X0 tyX0 tyX0_ok nmX0 hown hK hP hD hS 0 rfl rfl 8 (by decide) hf_47 (fun _ h9 => h9) rfl (tyX0_ok 8 (by decide)) rfl rfl (Nat.le_of_ble_eq_true rfl) dX0_become_89 (fun H locs hP hD hS => ?_)
  have hP : va_P D vwCl [(c_h, .inr (0, [.ref c_kinds_a, .ref c_seating_a, .ref c_knows_a, .ref c_seals_a, .ref c_telling_a, .int o_persons, .int o_wax, .int o_week, .int o_day, .int c_draw])), (c_kinds_a, .inl (cI, 6, .inl (va_cpy o_kinds c_kinds ((0 : Int32)).toNatClampNeg ((0 : Int32)).toNatClampNeg ((6 : Int32)).toNatClampNeg))), (c_seating_a, .inl (cI, 6, .inl (va_cpy o_seating c_seating ((0 : Int32)).toNatClampNeg ((0 : Int32)).toNatClampNeg ((6 : Int32)).toNatClampNeg))), (c_knows_a, .inl (cJ, 6, .inr (.inl (va_cpy o_knows c_knows ((0 : Int32)).toNatClampNeg ((0 : Int32)).toNatClampNeg ((6 : Int32)).toNatClampNeg)))), (c_seals_a, .inl (cJ, 6, .inr (.inl (va_cpy o_seals c_seals ((0 : Int32)).toNatClampNeg ((0 : Int32)).toNatClampNeg ((6 : Int32)).toNatClampNeg)))), (o_h, .inr (0, [.ref o_kinds_a, .ref o_seating_a, .ref o_knows_a, .ref o_seals_a, .ref o_telling_a, .int o_persons, .int o_wax, .int o_week, .int o_day, .int o_draw])), (o_kinds_a, .inl (cI, 6, .inl o_kinds)), (o_seating_a, .inl (cI, 6, .inl o_seating)), (o_knows_a, .inl (cJ, 6, .inr (.inl o_knows))), (o_seals_a, .inl (cJ, 6, .inr (.inl o_seals)))] H := hP
  have hD : va_D A [(c_h, .inr (0, [.ref c_kinds_a, .ref c_seating_a, .ref c_knows_a, .ref c_seals_a, .ref c_telling_a, .int o_persons, .int o_wax, .int o_week, .int o_day, .int c_draw])), (c_kinds_a, .inl (cI, 6, .inl (va_cpy o_kinds c_kinds ((0 : Int32)).toNatClampNeg ((0 : Int32)).toNatClampNeg ((6 : Int32)).toNatClampNeg))), (c_seating_a, .inl (cI, 6, .inl (va_cpy o_seating c_seating ((0 : Int32)).toNatClampNeg ((0 : Int32)).toNatClampNeg ((6 : Int32)).toNatClampNeg))), (c_knows_a, .inl (cJ, 6, .inr (.inl (va_cpy o_knows c_knows ((0 : Int32)).toNatClampNeg ((0 : Int32)).toNatClampNeg ((6 : Int32)).toNatClampNeg)))), (c_seals_a, .inl (cJ, 6, .inr (.inl (va_cpy o_seals c_seals ((0 : Int32)).toNatClampNeg ((0 : Int32)).toNatClampNeg ((6 : Int32)).toNatClampNeg)))), (o_h, .inr (0, [.ref o_kinds_a, .ref o_seating_a, .ref o_knows_a, .ref o_seals_a, .ref o_telling_a, .int o_persons, .int o_wax, .int o_week, .int o_day, .int o_draw])), (o_kinds_a, .inl (cI, 6, .inl o_kinds)), (o_seating_a, .inl (cI, 6, .inl o_seating)), (o_knows_a, .inl (cJ, 6, .inr (.inl o_knows))), (o_seals_a, .inl (cJ, 6, .inr (.inl o_seals)))] := hD
  refine lv_aload_n hx hb dX0_become_92 rfl (lv_at hl 0 rfl) ?_
  refine lv_aload_n hx hb dX0_become_93 rfl (lv_at hl 1 rfl) ?_
  refine va_get (D := D) (ci := 0) (v := .int o_draw) (C := RX0) (T := TX0) (N := 10) hx hb hts hin_X0 hown hK hP 5 rfl rfl 9 (by decide) hf_35 (fun _ h9 => h9) rfl dX0_become_94 ?_
  refine va_put (D := D) (ci := 0) (v := .int o_draw) (ty := .int) (C := RX0) (T := TX0) (N := 10) hx hb hts hin_X0 tyX0 tyX0_ok nmX0 hown hK hP hD hS 0 rfl rfl 9 (by decide) hf_35 (fun _ h9 => h9) rfl (tyX0_ok 9 (by decide)) rfl rfl (Nat.le_of_ble_eq_true rfl) dX0_become_97 (fun H locs hP hD hS => ?_)
  have hP : va_P D vwCl [(c_h, .inr (0, [.ref c_kinds_a, .ref c_seating_a, .ref c_knows_a, .ref c_seals_a, .ref c_telling_a, .int o_persons, .int o_wax, .int o_week, .int o_day, .int o_draw])), (c_kinds_a, .inl (cI, 6, .inl (va_cpy o_kinds c_kinds ((0 : Int32)).toNatClampNeg ((0 : Int32)).toNatClampNeg ((6 : Int32)).toNatClampNeg))), (c_seating_a, .inl (cI, 6, .inl (va_cpy o_seating c_seating ((0 : Int32)).toNatClampNeg ((0 : Int32)).toNatClampNeg ((6 : Int32)).toNatClampNeg))), (c_knows_a, .inl (cJ, 6, .inr (.inl (va_cpy o_knows c_knows ((0 : Int32)).toNatClampNeg ((0 : Int32)).toNatClampNeg ((6 : Int32)).toNatClampNeg)))), (c_seals_a, .inl (cJ, 6, .inr (.inl (va_cpy o_seals c_seals ((0 : Int32)).toNatClampNeg ((0 : Int32)).toNatClampNeg ((6 : Int32)).toNatClampNeg)))), (o_h, .inr (0, [.ref o_kinds_a, .ref o_seating_a, .ref o_knows_a, .ref o_seals_a, .ref o_telling_a, .int o_persons, .int o_wax, .int o_week, .int o_day, .int o_draw])), (o_kinds_a, .inl (cI, 6, .inl o_kinds)), (o_seating_a, .inl (cI, 6, .inl o_seating)), (o_knows_a, .inl (cJ, 6, .inr (.inl o_knows))), (o_seals_a, .inl (cJ, 6, .inr (.inl o_seals)))] H := hP
  have hD : va_D A [(c_h, .inr (0, [.ref c_kinds_a, .ref c_seating_a, .ref c_knows_a, .ref c_seals_a, .ref c_telling_a, .int o_persons, .int o_wax, .int o_week, .int o_day, .int o_draw])), (c_kinds_a, .inl (cI, 6, .inl (va_cpy o_kinds c_kinds ((0 : Int32)).toNatClampNeg ((0 : Int32)).toNatClampNeg ((6 : Int32)).toNatClampNeg))), (c_seating_a, .inl (cI, 6, .inl (va_cpy o_seating c_seating ((0 : Int32)).toNatClampNeg ((0 : Int32)).toNatClampNeg ((6 : Int32)).toNatClampNeg))), (c_knows_a, .inl (cJ, 6, .inr (.inl (va_cpy o_knows c_knows ((0 : Int32)).toNatClampNeg ((0 : Int32)).toNatClampNeg ((6 : Int32)).toNatClampNeg)))), (c_seals_a, .inl (cJ, 6, .inr (.inl (va_cpy o_seals c_seals ((0 : Int32)).toNatClampNeg ((0 : Int32)).toNatClampNeg ((6 : Int32)).toNatClampNeg)))), (o_h, .inr (0, [.ref o_kinds_a, .ref o_seating_a, .ref o_knows_a, .ref o_seals_a, .ref o_telling_a, .int o_persons, .int o_wax, .int o_week, .int o_day, .int o_draw])), (o_kinds_a, .inl (cI, 6, .inl o_kinds)), (o_seating_a, .inl (cI, 6, .inl o_seating)), (o_knows_a, .inl (cJ, 6, .inr (.inl o_knows))), (o_seals_a, .inl (cJ, 6, .inr (.inl o_seals)))] := hD
  cases hM
  exact hret _ _ _ _ dX0_become_100 (hP.sub [0, 1, 2, 3, 4, 5, 6, 7, 8, 9] rfl) (hD.sub [0, 1, 2, 3, 4, 5, 6, 7, 8, 9] (by decide) rfl) hS
set_option maxHeartbeats 4000000 in
set_option maxRecDepth 100000 in
theorem mtX0_become (l : Launch) (D : va_G) (cI cJ cS : ClassId) (sz : Nat) (c_h c_kinds_a c_seating_a c_knows_a c_seals_a c_telling_a o_h o_kinds_a o_seating_a o_knows_a o_seals_a o_telling_a : Nat) (c_kinds : Nat → Int32) (c_seating : Nat → Int32) (c_knows : Nat → Int64) (c_seals : Nat → Int64) (c_persons : Int32) (c_wax : Int32) (c_week : Int32) (c_day : Int32) (c_draw : Int32) (o_kinds : Nat → Int32) (o_seating : Nat → Int32) (o_knows : Nat → Int64) (o_seals : Nat → Int64) (o_persons : Int32) (o_wax : Int32) (o_week : Int32) (o_day : Int32) (o_draw : Int32) (F : Nat) (w_c_kinds : Nat → Int32) (w_c_seating : Nat → Int32) (w_c_knows : Nat → Int64) (w_c_seals : Nat → Int64) (w_c_persons : Int32) (w_c_wax : Int32) (w_c_week : Int32) (w_c_day : Int32) (w_c_draw : Int32) (hM : fnX0_become F c_kinds c_seating c_knows c_seals c_persons c_wax c_week c_day c_draw o_kinds o_seating o_knows o_seals o_persons o_wax o_week o_day o_draw = some (w_c_kinds, w_c_seating, w_c_knows, w_c_seals, w_c_persons, w_c_wax, w_c_week, w_c_day, w_c_draw)) : sx_MV l yX0_become wsX0_become ({ frames := 1, cells := 0, slots := 0, locals := 26 }) D (sx_T cI cJ cS) sz [.ref c_h, .ref o_h] [(c_h, .inr (0, [.ref c_kinds_a, .ref c_seating_a, .ref c_knows_a, .ref c_seals_a, .ref c_telling_a, .int c_persons, .int c_wax, .int c_week, .int c_day, .int c_draw])), (c_kinds_a, .inl (cI, 6, .inl c_kinds)), (c_seating_a, .inl (cI, 6, .inl c_seating)), (c_knows_a, .inl (cJ, 6, .inr (.inl c_knows))), (c_seals_a, .inl (cJ, 6, .inr (.inl c_seals))), (o_h, .inr (0, [.ref o_kinds_a, .ref o_seating_a, .ref o_knows_a, .ref o_seals_a, .ref o_telling_a, .int o_persons, .int o_wax, .int o_week, .int o_day, .int o_draw])), (o_kinds_a, .inl (cI, 6, .inl o_kinds)), (o_seating_a, .inl (cI, 6, .inl o_seating)), (o_knows_a, .inl (cJ, 6, .inr (.inl o_knows))), (o_seals_a, .inl (cJ, 6, .inr (.inl o_seals)))] [(c_h, .inr (0, [.ref c_kinds_a, .ref c_seating_a, .ref c_knows_a, .ref c_seals_a, .ref c_telling_a, .int w_c_persons, .int w_c_wax, .int w_c_week, .int w_c_day, .int w_c_draw])), (c_kinds_a, .inl (cI, 6, .inl w_c_kinds)), (c_seating_a, .inl (cI, 6, .inl w_c_seating)), (c_knows_a, .inl (cJ, 6, .inr (.inl w_c_knows))), (c_seals_a, .inl (cJ, 6, .inr (.inl w_c_seals))), (o_h, .inr (0, [.ref o_kinds_a, .ref o_seating_a, .ref o_knows_a, .ref o_seals_a, .ref o_telling_a, .int o_persons, .int o_wax, .int o_week, .int o_day, .int o_draw])), (o_kinds_a, .inl (cI, 6, .inl o_kinds)), (o_seating_a, .inl (cI, 6, .inl o_seating)), (o_knows_a, .inl (cJ, 6, .inr (.inl o_knows))), (o_seals_a, .inl (cJ, 6, .inr (.inl o_seals)))] := by
  refine Met.ofW (cc := cX0_become) (maxL := 2) (ret := none) (by decide) rfl ?_
  intro p e s m args below meth c s₁ B hml hv
  obtain ⟨rfl, hsz, hN, hP, hK, hD0⟩ := hv
  subst hsz
  have hl := lv_entry ([.ref c_h, .ref o_h]) (n := 2) (Nat.le_of_ble_eq_true rfl)
  rw [lg_entry_eq]
  generalize (lg_sl ([.ref c_h, .ref o_h]) ++ List.replicate (2 - (lg_sl ([.ref c_h, .ref o_h])).length) Slot.unset).toArray = ls at hl ⊢
  exact kwX0_become B.exec B.bytes hml (findClass_of_methodNamed B.named) (atoms_spec (ws := wsX0_become) B.pre) hN hK (fun q h => Or.inr h) (by decide) (by decide) ⟨Nat.zero_le _, Nat.zero_le _⟩ c_h c_kinds_a c_seating_a c_knows_a c_seals_a c_telling_a o_h o_kinds_a o_seating_a o_knows_a o_seals_a o_telling_a c_kinds c_seating c_knows c_seals c_persons c_wax c_week c_day c_draw o_kinds o_seating o_knows o_seals o_persons o_wax o_week o_day o_draw F w_c_kinds w_c_seating w_c_knows w_c_seals w_c_persons w_c_wax w_c_week w_c_day w_c_draw hM _ _ _ hl hP hD0.self va_S.rf (fun H1 locs1 ls1 pc1 hd hP hD hS => W.vret B.exec B.bytes B.returns (fun t ht hW => ⟨⟨(), rfl, trivial, by rw [ht]; exact hP, hD⟩, hS.F ht⟩) hS.2.2 hd)

def fnX4_sealedIn (F : Nat) (a1 : Int64) : Option (Int64) :=
  (some (((((a1 + (9187201950435737471 : Int64)) &&& (-9187201950435737472 : Int64))).toUInt64 >>> (((7 : Int32)).toInt64.toUInt64 &&& Int64.toUInt64 63)).toInt64))
set_option maxHeartbeats 4000000 in
set_option maxRecDepth 100000 in
theorem kwX4_sealedIn {p : Program} {l : Launch} {e : Env} {R : Room} {s : State} {m : MethodId} {args : Array Value} {below : List Frame} {meth : Method} {c : Code} {cells slots : Nat} {Q : State → Prop} {A : Nat → Prop} {H0 : Heap} {D : va_G} {cI cJ cS : ClassId} (hx : p.tables.exec = Jvm.exec) (hb : c.code = cX4_sealedIn) (hml : c.maxLocals = 2) (hown : s.vm.findClass RX4 = some m.cls) (hts : ∀ w ∈ wsX4_sealedIn, w.before args s = true) (hN : sx_N s) (hK : va_K D vwCl (sx_T cI cJ cS) s) (hA : ∀ q, H0.size ≤ q → A q) (hRf : 0 ≤ R.frames) (hRl : 0 ≤ R.locals) (hRc : cells ≤ R.cells ∧ slots ≤ R.slots) (a1 : Int64) (F : Nat) (r0 : Int64) (hM : fnX4_sealedIn F a1 = some r0) (H : Heap) (locs : List Loc) (ls : Array Slot) (hl : lv_has ls 2 [(0, .long a1)]) (hP : va_P D vwCl [] H) (hD : va_D A []) (hS : va_S A H0 H locs)
    (hret : ∀ (H1 : Heap) (locs1 : List Loc) (ls1 : Array Slot) (pc1 : Nat), decode cX4_sealedIn pc1 = .ok (.lreturn, 1) → va_P D vwCl [] H1 → va_D A [] → va_S A H0 H1 locs1 → W p l e R s m args below meth c H1 locs1 cells slots Q (F0 m pc1 ls1 [.long r0])) : W p l e R s m args below meth c H locs cells slots Q (F0 m 0 ls []) := by
  unfold fnX4_sealedIn at hM
  refine lv_lload_n hx hb dX4_sealedIn_0 rfl (lv_at hl 0 rfl) ?_
  refine lv_ldc2 (v := 9187201950435737471) hx hb hown (hts (.constantLong RX4 263 (9187201950435737471)) (by decide +kernel)) dX4_sealedIn_1 ?_
  refine lv_ladd hx hb dX4_sealedIn_4 ?_
  refine lv_ldc2 (v := -9187201950435737472) hx hb hown (hts (.constantLong RX4 265 (-9187201950435737472)) (by decide +kernel)) dX4_sealedIn_5 ?_
  refine lv_land hx hb dX4_sealedIn_8 ?_
  refine lv_bipush (v := 7) hx hb dX4_sealedIn_9 (by decide) ?_
  refine lv_lushr hx hb dX4_sealedIn_11 rfl ?_
  cases hM
  exact hret _ _ _ _ dX4_sealedIn_12 (hP.sub [] rfl) (hD.sub [] (by decide) rfl) hS
set_option maxHeartbeats 4000000 in
set_option maxRecDepth 100000 in
theorem mtX4_sealedIn (l : Launch) (D : va_G) (cI cJ cS : ClassId) (sz : Nat) (a1 : Int64) (F : Nat) (r0 : Int64) (hM : fnX4_sealedIn F a1 = some r0) : sx_ML l yX4_sealedIn wsX4_sealedIn ({ frames := 0, cells := 0, slots := 0, locals := 0 }) D (sx_T cI cJ cS) sz [.long a1] [] r0 [] := by
  refine Met.ofW (cc := cX4_sealedIn) (maxL := 2) (ret := (some .long)) (by decide) rfl ?_
  intro p e s m args below meth c s₁ B hml hv
  obtain ⟨rfl, hsz, hN, hP, hK, hD0⟩ := hv
  subst hsz
  have hl := lv_entry ([.long a1]) (n := 2) (Nat.le_of_ble_eq_true rfl)
  rw [lg_entry_eq]
  generalize (lg_sl ([.long a1]) ++ List.replicate (2 - (lg_sl ([.long a1])).length) Slot.unset).toArray = ls at hl ⊢
  exact kwX4_sealedIn B.exec B.bytes hml (findClass_of_methodNamed B.named) (atoms_spec (ws := wsX4_sealedIn) B.pre) hN hK (fun q h => Or.inr h) (by decide) (by decide) ⟨Nat.zero_le _, Nat.zero_le _⟩ a1 F r0 hM _ _ _ hl hP hD0.self va_S.rf (fun H1 locs1 ls1 pc1 hd hP hD hS => W.lret (v := r0) B.exec B.bytes B.returns (fun t ht hW => ⟨⟨r0, (), rfl, rfl, by rw [ht]; exact hP, hD⟩, hS.F ht⟩) hS.2.2 hd)

def fnJ13_bitCount_95d88 (F : Nat) (a1 : Int64) : Option (Int32) :=
  sx_nm (a1 - (((a1).toUInt64 >>> (((1 : Int32)).toInt64.toUInt64 &&& Int64.toUInt64 63)).toInt64 &&& (6148914691236517205 : Int64))) (fun (v1 : Int64) => sx_nm ((v1 &&& (3689348814741910323 : Int64)) + (((v1).toUInt64 >>> (((2 : Int32)).toInt64.toUInt64 &&& Int64.toUInt64 63)).toInt64 &&& (3689348814741910323 : Int64))) (fun (v2 : Int64) => sx_nm ((v2 + ((v2).toUInt64 >>> (((4 : Int32)).toInt64.toUInt64 &&& Int64.toUInt64 63)).toInt64) &&& (1085102592571150095 : Int64)) (fun (v3 : Int64) => sx_nm (v3 + ((v3).toUInt64 >>> (((8 : Int32)).toInt64.toUInt64 &&& Int64.toUInt64 63)).toInt64) (fun (v4 : Int64) => sx_nm (v4 + ((v4).toUInt64 >>> (((16 : Int32)).toInt64.toUInt64 &&& Int64.toUInt64 63)).toInt64) (fun (v5 : Int64) => sx_nm (v5 + ((v5).toUInt64 >>> (((32 : Int32)).toInt64.toUInt64 &&& Int64.toUInt64 63)).toInt64) (fun (v6 : Int64) => (some (((v6).toInt32 &&& (127 : Int32))))))))))
set_option maxHeartbeats 4000000 in
set_option maxRecDepth 100000 in
theorem kwJ13_bitCount_95d88 {p : Program} {l : Launch} {e : Env} {R : Room} {s : State} {m : MethodId} {args : Array Value} {below : List Frame} {meth : Method} {c : Code} {cells slots : Nat} {Q : State → Prop} {A : Nat → Prop} {H0 : Heap} {D : va_G} {cI cJ cS : ClassId} (hx : p.tables.exec = Jvm.exec) (hb : c.code = cJ13_bitCount_95d88) (hml : c.maxLocals = 2) (hown : s.vm.findClass RJ13 = some m.cls) (hts : ∀ w ∈ wsJ13_bitCount_95d88, w.before args s = true) (hN : sx_N s) (hK : va_K D vwCl (sx_T cI cJ cS) s) (hA : ∀ q, H0.size ≤ q → A q) (hRf : 0 ≤ R.frames) (hRl : 0 ≤ R.locals) (hRc : cells ≤ R.cells ∧ slots ≤ R.slots) (a1 : Int64) (F : Nat) (r0 : Int32) (hM : fnJ13_bitCount_95d88 F a1 = some r0) (H : Heap) (locs : List Loc) (ls : Array Slot) (hl : lv_has ls 2 [(0, .long a1)]) (hP : va_P D vwCl [] H) (hD : va_D A []) (hS : va_S A H0 H locs)
    (hret : ∀ (H1 : Heap) (locs1 : List Loc) (ls1 : Array Slot) (pc1 : Nat), decode cJ13_bitCount_95d88 pc1 = .ok (.ireturn, 1) → va_P D vwCl [] H1 → va_D A [] → va_S A H0 H1 locs1 → W p l e R s m args below meth c H1 locs1 cells slots Q (F0 m pc1 ls1 [.int r0])) : W p l e R s m args below meth c H locs cells slots Q (F0 m 0 ls []) := by
  unfold fnJ13_bitCount_95d88 at hM
  refine lv_lload_n hx hb dJ13_bitCount_95d88_0 rfl (lv_at hl 0 rfl) ?_
  refine lv_lload_n hx hb dJ13_bitCount_95d88_1 rfl (lv_at hl 0 rfl) ?_
  refine lv_iconst (v := 1) hx hb dJ13_bitCount_95d88_2 (by decide) ?_
  refine lv_lushr hx hb dJ13_bitCount_95d88_3 rfl ?_
  refine lv_ldc2 (v := 6148914691236517205) hx hb hown (hts (.constantLong RJ13 314 (6148914691236517205)) (by decide +kernel)) dJ13_bitCount_95d88_4 ?_
  refine lv_land hx hb dJ13_bitCount_95d88_7 ?_
  refine lv_lsub hx hb dJ13_bitCount_95d88_8 ?_
  obtain ⟨v1, ev1, hM⟩ := sx_nm_s hM
  refine W.eq (g2 := F0 m 9 ls (.long v1 :: [])) (by subst ev1; rfl) ?_
  refine lv_lstore_n (lv' := [(0, .long v1)]) hx hb dJ13_bitCount_95d88_9 rfl hl (by decide) rfl (fun ls hl => ?_)
  refine lv_lload_n hx hb dJ13_bitCount_95d88_10 rfl (lv_at hl 0 rfl) ?_
  refine lv_ldc2 (v := 3689348814741910323) hx hb hown (hts (.constantLong RJ13 316 (3689348814741910323)) (by decide +kernel)) dJ13_bitCount_95d88_11 ?_
  refine lv_land hx hb dJ13_bitCount_95d88_14 ?_
  refine lv_lload_n hx hb dJ13_bitCount_95d88_15 rfl (lv_at hl 0 rfl) ?_
  refine lv_iconst (v := 2) hx hb dJ13_bitCount_95d88_16 (by decide) ?_
  refine lv_lushr hx hb dJ13_bitCount_95d88_17 rfl ?_
  refine lv_ldc2 (v := 3689348814741910323) hx hb hown (hts (.constantLong RJ13 316 (3689348814741910323)) (by decide +kernel)) dJ13_bitCount_95d88_18 ?_
  refine lv_land hx hb dJ13_bitCount_95d88_21 ?_
  refine lv_ladd hx hb dJ13_bitCount_95d88_22 ?_
  obtain ⟨v2, ev2, hM⟩ := sx_nm_s hM
  refine W.eq (g2 := F0 m 23 ls (.long v2 :: [])) (by subst ev2; rfl) ?_
  refine lv_lstore_n (lv' := [(0, .long v2)]) hx hb dJ13_bitCount_95d88_23 rfl hl (by decide) rfl (fun ls hl => ?_)
  refine lv_lload_n hx hb dJ13_bitCount_95d88_24 rfl (lv_at hl 0 rfl) ?_
  refine lv_lload_n hx hb dJ13_bitCount_95d88_25 rfl (lv_at hl 0 rfl) ?_
  refine lv_iconst (v := 4) hx hb dJ13_bitCount_95d88_26 (by decide) ?_
  refine lv_lushr hx hb dJ13_bitCount_95d88_27 rfl ?_
  refine lv_ladd hx hb dJ13_bitCount_95d88_28 ?_
  refine lv_ldc2 (v := 1085102592571150095) hx hb hown (hts (.constantLong RJ13 318 (1085102592571150095)) (by decide +kernel)) dJ13_bitCount_95d88_29 ?_
  refine lv_land hx hb dJ13_bitCount_95d88_32 ?_
  obtain ⟨v3, ev3, hM⟩ := sx_nm_s hM
  refine W.eq (g2 := F0 m 33 ls (.long v3 :: [])) (by subst ev3; rfl) ?_
  refine lv_lstore_n (lv' := [(0, .long v3)]) hx hb dJ13_bitCount_95d88_33 rfl hl (by decide) rfl (fun ls hl => ?_)
  refine lv_lload_n hx hb dJ13_bitCount_95d88_34 rfl (lv_at hl 0 rfl) ?_
  refine lv_lload_n hx hb dJ13_bitCount_95d88_35 rfl (lv_at hl 0 rfl) ?_
  refine lv_bipush (v := 8) hx hb dJ13_bitCount_95d88_36 (by decide) ?_
  refine lv_lushr hx hb dJ13_bitCount_95d88_38 rfl ?_
  refine lv_ladd hx hb dJ13_bitCount_95d88_39 ?_
  obtain ⟨v4, ev4, hM⟩ := sx_nm_s hM
  refine W.eq (g2 := F0 m 40 ls (.long v4 :: [])) (by subst ev4; rfl) ?_
  refine lv_lstore_n (lv' := [(0, .long v4)]) hx hb dJ13_bitCount_95d88_40 rfl hl (by decide) rfl (fun ls hl => ?_)
  refine lv_lload_n hx hb dJ13_bitCount_95d88_41 rfl (lv_at hl 0 rfl) ?_
  refine lv_lload_n hx hb dJ13_bitCount_95d88_42 rfl (lv_at hl 0 rfl) ?_
  refine lv_bipush (v := 16) hx hb dJ13_bitCount_95d88_43 (by decide) ?_
  refine lv_lushr hx hb dJ13_bitCount_95d88_45 rfl ?_
  refine lv_ladd hx hb dJ13_bitCount_95d88_46 ?_
  obtain ⟨v5, ev5, hM⟩ := sx_nm_s hM
  refine W.eq (g2 := F0 m 47 ls (.long v5 :: [])) (by subst ev5; rfl) ?_
  refine lv_lstore_n (lv' := [(0, .long v5)]) hx hb dJ13_bitCount_95d88_47 rfl hl (by decide) rfl (fun ls hl => ?_)
  refine lv_lload_n hx hb dJ13_bitCount_95d88_48 rfl (lv_at hl 0 rfl) ?_
  refine lv_lload_n hx hb dJ13_bitCount_95d88_49 rfl (lv_at hl 0 rfl) ?_
  refine lv_bipush (v := 32) hx hb dJ13_bitCount_95d88_50 (by decide) ?_
  refine lv_lushr hx hb dJ13_bitCount_95d88_52 rfl ?_
  refine lv_ladd hx hb dJ13_bitCount_95d88_53 ?_
  obtain ⟨v6, ev6, hM⟩ := sx_nm_s hM
  refine W.eq (g2 := F0 m 54 ls (.long v6 :: [])) (by subst ev6; rfl) ?_
  refine lv_lstore_n (lv' := [(0, .long v6)]) hx hb dJ13_bitCount_95d88_54 rfl hl (by decide) rfl (fun ls hl => ?_)
  refine lv_lload_n hx hb dJ13_bitCount_95d88_55 rfl (lv_at hl 0 rfl) ?_
  refine lv_l2i hx hb dJ13_bitCount_95d88_56 rfl ?_
  refine lv_bipush (v := 127) hx hb dJ13_bitCount_95d88_57 (by decide) ?_
  refine lv_iand hx hb dJ13_bitCount_95d88_59 ?_
  cases hM
  exact hret _ _ _ _ dJ13_bitCount_95d88_60 (hP.sub [] rfl) (hD.sub [] (by decide) rfl) hS
set_option maxHeartbeats 4000000 in
set_option maxRecDepth 100000 in
theorem mtJ13_bitCount_95d88 (l : Launch) (D : va_G) (cI cJ cS : ClassId) (sz : Nat) (a1 : Int64) (F : Nat) (r0 : Int32) (hM : fnJ13_bitCount_95d88 F a1 = some r0) : sx_MI l yJ13_bitCount_95d88 wsJ13_bitCount_95d88 ({ frames := 0, cells := 0, slots := 0, locals := 0 }) D (sx_T cI cJ cS) sz [.long a1] [] r0 [] := by
  refine Met.ofW (cc := cJ13_bitCount_95d88) (maxL := 2) (ret := (some .int)) (by decide) rfl ?_
  intro p e s m args below meth c s₁ B hml hv
  obtain ⟨rfl, hsz, hN, hP, hK, hD0⟩ := hv
  subst hsz
  have hl := lv_entry ([.long a1]) (n := 2) (Nat.le_of_ble_eq_true rfl)
  rw [lg_entry_eq]
  generalize (lg_sl ([.long a1]) ++ List.replicate (2 - (lg_sl ([.long a1])).length) Slot.unset).toArray = ls at hl ⊢
  exact kwJ13_bitCount_95d88 B.exec B.bytes hml (findClass_of_methodNamed B.named) (atoms_spec (ws := wsJ13_bitCount_95d88) B.pre) hN hK (fun q h => Or.inr h) (by decide) (by decide) ⟨Nat.zero_le _, Nat.zero_le _⟩ a1 F r0 hM _ _ _ hl hP hD0.self va_S.rf (fun H1 locs1 ls1 pc1 hd hP hD hS => W.iret (v := r0) B.exec B.bytes B.returns (fun t ht hW => ⟨⟨r0, (), rfl, rfl, by rw [ht]; exact hP, hD⟩, hS.F ht⟩) hS.2.2 hd)

def fnX0_rankOf (F : Nat) (c_seals : Nat → Int64) (a1 : Int32) : Option (Int32) :=
  sx_gd (sx_ib a1 6) (sx_c1 (fnX4_sealedIn F (c_seals (a1).toNatClampNeg)) (fun (r2 : Int64) => sx_c1 (fnJ13_bitCount_95d88 F r2) (fun (r4 : Int32) => (some (r4)))))
set_option maxHeartbeats 4000000 in
set_option maxRecDepth 100000 in
theorem kwX0_rankOf {p : Program} {l : Launch} {e : Env} {R : Room} {s : State} {m : MethodId} {args : Array Value} {below : List Frame} {meth : Method} {c : Code} {cells slots : Nat} {Q : State → Prop} {A : Nat → Prop} {H0 : Heap} {D : va_G} {cI cJ cS : ClassId} (hx : p.tables.exec = Jvm.exec) (hb : c.code = cX0_rankOf) (hml : c.maxLocals = 2) (hown : s.vm.findClass RX0 = some m.cls) (hts : ∀ w ∈ wsX0_rankOf, w.before args s = true) (hN : sx_N s) (hK : va_K D vwCl (sx_T cI cJ cS) s) (hA : ∀ q, H0.size ≤ q → A q) (hRf : 1 ≤ R.frames) (hRl : 21 ≤ R.locals) (hRc : cells ≤ R.cells ∧ slots ≤ R.slots) (c_h c_kinds_a c_seating_a c_knows_a c_seals_a c_telling_a : Nat) (c_seals : Nat → Int64) (c_persons : Int32) (c_wax : Int32) (c_week : Int32) (c_day : Int32) (c_draw : Int32) (a1 : Int32) (F : Nat) (r0 : Int32) (hM : fnX0_rankOf F c_seals a1 = some r0) (H : Heap) (locs : List Loc) (ls : Array Slot) (hl : lv_has ls 2 [(0, .ref c_h), (1, .int a1)]) (hP : va_P D vwCl [(c_h, .inr (0, [.ref c_kinds_a, .ref c_seating_a, .ref c_knows_a, .ref c_seals_a, .ref c_telling_a, .int c_persons, .int c_wax, .int c_week, .int c_day, .int c_draw])), (c_seals_a, .inl (cJ, 6, .inr (.inl c_seals)))] H) (hD : va_D A [(c_h, .inr (0, [.ref c_kinds_a, .ref c_seating_a, .ref c_knows_a, .ref c_seals_a, .ref c_telling_a, .int c_persons, .int c_wax, .int c_week, .int c_day, .int c_draw])), (c_seals_a, .inl (cJ, 6, .inr (.inl c_seals)))]) (hS : va_S A H0 H locs)
    (hret : ∀ (H1 : Heap) (locs1 : List Loc) (ls1 : Array Slot) (pc1 : Nat), decode cX0_rankOf pc1 = .ok (.ireturn, 1) → va_P D vwCl [(c_h, .inr (0, [.ref c_kinds_a, .ref c_seating_a, .ref c_knows_a, .ref c_seals_a, .ref c_telling_a, .int c_persons, .int c_wax, .int c_week, .int c_day, .int c_draw])), (c_seals_a, .inl (cJ, 6, .inr (.inl c_seals)))] H1 → va_D A [(c_h, .inr (0, [.ref c_kinds_a, .ref c_seating_a, .ref c_knows_a, .ref c_seals_a, .ref c_telling_a, .int c_persons, .int c_wax, .int c_week, .int c_day, .int c_draw])), (c_seals_a, .inl (cJ, 6, .inr (.inl c_seals)))] → va_S A H0 H1 locs1 → W p l e R s m args below meth c H1 locs1 cells slots Q (F0 m pc1 ls1 [.int r0])) : W p l e R s m args below meth c H locs cells slots Q (F0 m 0 ls []) := by
  have hf_22 := hts (.fieldLink RX0 22 "SealedLips$Court" "seals" "[J") (by decide +kernel)
  have hin_X0 : ∀ w ∈ wsX00, w ∈ wsX0_rankOf := by decide +kernel
  unfold fnX0_rankOf at hM
  refine lv_aload_n hx hb dX0_rankOf_0 rfl (lv_at hl 0 rfl) ?_
  refine va_get (D := D) (ci := 0) (v := .ref c_seals_a) (C := RX0) (T := TX0) (N := 10) hx hb hts hin_X0 hown hK hP 0 rfl rfl 3 (by decide) hf_22 (fun _ h9 => h9) rfl dX0_rankOf_1 ?_
  refine lv_iload_n hx hb dX0_rankOf_4 rfl (lv_at hl 1 rfl) ?_
  obtain ⟨g1, hM⟩ := sx_gd_s hM
  refine va_lald hx hb hK hP 1 1 rfl rfl (sx_ib_s g1) dX0_rankOf_5 ?_
  obtain ⟨r2, hc3, hM⟩ := sx_c1_s hM
  refine sx_lSN (As := [.long (c_seals (a1).toNatClampNeg)]) (rest := []) (wc := []) (wr := [(c_h, .inr (0, [.ref c_kinds_a, .ref c_seating_a, .ref c_knows_a, .ref c_seals_a, .ref c_telling_a, .int c_persons, .int c_wax, .int c_week, .int c_day, .int c_draw])), (c_seals_a, .inl (cJ, 6, .inr (.inl c_seals)))]) (w1 := []) ⟨hx, hb, hml, hown, hts⟩ (mtX4_sealedIn l D cI cJ cS H.size (c_seals (a1).toNatClampNeg) F r2 hc3) ⟨va_cnB (host := "SealedLips") 1 hts gX0_rankOf_X4_sealedIn_n65 rfl rfl rfl (hN (.methodLinkNest "SealedLips$Court" 65 ⟨"SealedLips", "sealedIn", "(J)J"⟩ "SealedLips") (by decide +kernel)) (hts (.initialized RX4) (by decide +kernel)) (by decide +kernel) ⟨Nat.le_trans (by decide) hRf, Nat.le_trans (by decide) hRl⟩, hts (.static yX4_sealedIn) (by decide +kernel), trivial⟩ hK hN hP hD hS hA [] [0, 1] rfl (by decide) rfl (by decide) (by decide) rfl hl.1 rfl (Nat.le_of_ble_eq_true rfl) dX0_rankOf_6 hRc (fun H locs hP hD hS => ?_)
  have hP : va_P D vwCl [(c_h, .inr (0, [.ref c_kinds_a, .ref c_seating_a, .ref c_knows_a, .ref c_seals_a, .ref c_telling_a, .int c_persons, .int c_wax, .int c_week, .int c_day, .int c_draw])), (c_seals_a, .inl (cJ, 6, .inr (.inl c_seals)))] H := hP
  have hD : va_D A [(c_h, .inr (0, [.ref c_kinds_a, .ref c_seating_a, .ref c_knows_a, .ref c_seals_a, .ref c_telling_a, .int c_persons, .int c_wax, .int c_week, .int c_day, .int c_draw])), (c_seals_a, .inl (cJ, 6, .inr (.inl c_seals)))] := hD
  obtain ⟨r4, hc5, hM⟩ := sx_c1_s hM
  refine sx_iS (As := [.long r2]) (rest := []) (wc := []) (wr := [(c_h, .inr (0, [.ref c_kinds_a, .ref c_seating_a, .ref c_knows_a, .ref c_seals_a, .ref c_telling_a, .int c_persons, .int c_wax, .int c_week, .int c_day, .int c_draw])), (c_seals_a, .inl (cJ, 6, .inr (.inl c_seals)))]) (w1 := []) ⟨hx, hb, hml, hown, hts⟩ (mtJ13_bitCount_95d88 l D cI cJ cS H.size r2 F r4 hc5) (va_cwS 1 hts gX0_rankOf_J13_bitCount_95d88 rfl rfl rfl (by decide +kernel) ⟨Nat.le_trans (by decide) hRf, Nat.le_trans (by decide) hRl⟩) hK hN hP hD hS hA [] [0, 1] rfl (by decide) rfl (by decide) (by decide) rfl hl.1 rfl (Nat.le_of_ble_eq_true rfl) dX0_rankOf_9 hRc (fun H locs hP hD hS => ?_)
  have hP : va_P D vwCl [(c_h, .inr (0, [.ref c_kinds_a, .ref c_seating_a, .ref c_knows_a, .ref c_seals_a, .ref c_telling_a, .int c_persons, .int c_wax, .int c_week, .int c_day, .int c_draw])), (c_seals_a, .inl (cJ, 6, .inr (.inl c_seals)))] H := hP
  have hD : va_D A [(c_h, .inr (0, [.ref c_kinds_a, .ref c_seating_a, .ref c_knows_a, .ref c_seals_a, .ref c_telling_a, .int c_persons, .int c_wax, .int c_week, .int c_day, .int c_draw])), (c_seals_a, .inl (cJ, 6, .inr (.inl c_seals)))] := hD
  cases hM
  exact hret _ _ _ _ dX0_rankOf_12 (hP.sub [0, 1] rfl) (hD.sub [0, 1] (by decide) rfl) hS
set_option maxHeartbeats 4000000 in
set_option maxRecDepth 100000 in
theorem mtX0_rankOf (l : Launch) (D : va_G) (cI cJ cS : ClassId) (sz : Nat) (c_h c_kinds_a c_seating_a c_knows_a c_seals_a c_telling_a : Nat) (c_seals : Nat → Int64) (c_persons : Int32) (c_wax : Int32) (c_week : Int32) (c_day : Int32) (c_draw : Int32) (a1 : Int32) (F : Nat) (r0 : Int32) (hM : fnX0_rankOf F c_seals a1 = some r0) : sx_MI l yX0_rankOf wsX0_rankOf ({ frames := 1, cells := 0, slots := 0, locals := 21 }) D (sx_T cI cJ cS) sz [.ref c_h, .int a1] [(c_h, .inr (0, [.ref c_kinds_a, .ref c_seating_a, .ref c_knows_a, .ref c_seals_a, .ref c_telling_a, .int c_persons, .int c_wax, .int c_week, .int c_day, .int c_draw])), (c_seals_a, .inl (cJ, 6, .inr (.inl c_seals)))] r0 [(c_h, .inr (0, [.ref c_kinds_a, .ref c_seating_a, .ref c_knows_a, .ref c_seals_a, .ref c_telling_a, .int c_persons, .int c_wax, .int c_week, .int c_day, .int c_draw])), (c_seals_a, .inl (cJ, 6, .inr (.inl c_seals)))] := by
  refine Met.ofW (cc := cX0_rankOf) (maxL := 2) (ret := (some .int)) (by decide) rfl ?_
  intro p e s m args below meth c s₁ B hml hv
  obtain ⟨rfl, hsz, hN, hP, hK, hD0⟩ := hv
  subst hsz
  have hl := lv_entry ([.ref c_h, .int a1]) (n := 2) (Nat.le_of_ble_eq_true rfl)
  rw [lg_entry_eq]
  generalize (lg_sl ([.ref c_h, .int a1]) ++ List.replicate (2 - (lg_sl ([.ref c_h, .int a1])).length) Slot.unset).toArray = ls at hl ⊢
  exact kwX0_rankOf B.exec B.bytes hml (findClass_of_methodNamed B.named) (atoms_spec (ws := wsX0_rankOf) B.pre) hN hK (fun q h => Or.inr h) (by decide) (by decide) ⟨Nat.zero_le _, Nat.zero_le _⟩ c_h c_kinds_a c_seating_a c_knows_a c_seals_a c_telling_a c_seals c_persons c_wax c_week c_day c_draw a1 F r0 hM _ _ _ hl hP hD0.self va_S.rf (fun H1 locs1 ls1 pc1 hd hP hD hS => W.iret (v := r0) B.exec B.bytes B.returns (fun t ht hW => ⟨⟨r0, (), rfl, rfl, by rw [ht]; exact hP, hD⟩, hS.F ht⟩) hS.2.2 hd)
