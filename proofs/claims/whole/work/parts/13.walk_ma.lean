def fnX5_in (F : Nat) (a1 : Int64) (a2 : Int64) (a3 : Int64) : Option (Int32) :=
  (if (lg_cmp a1 a2) < 0 then (some ((0 : Int32))) else (if 0 < (lg_cmp a1 a3) then (some ((0 : Int32))) else (some ((1 : Int32)))))
set_option maxHeartbeats 4000000 in
set_option maxRecDepth 100000 in
theorem kwX5_in {p : Program} {l : Launch} {e : Env} {R : Room} {s : State} {m : MethodId} {args : Array Value} {below : List Frame} {meth : Method} {c : Code} {cells slots : Nat} {Q : State → Prop} {A : Nat → Prop} {H0 : Heap} {D : va_G} {cI cJ cS : ClassId} (hx : p.tables.exec = Jvm.exec) (hb : c.code = cX5_in) (hml : c.maxLocals = 6) (hown : s.vm.findClass RX5 = some m.cls) (hts : ∀ w ∈ wsX5_in, w.before args s = true) (hN : sx_N s) (hK : va_K D vwCl (sx_T cI cJ cS) s) (hA : ∀ q, H0.size ≤ q → A q) (hRf : 0 ≤ R.frames) (hRl : 0 ≤ R.locals) (hRc : cells ≤ R.cells ∧ slots ≤ R.slots) (a1 : Int64) (a2 : Int64) (a3 : Int64) (F : Nat) (r0 : Int32) (hM : fnX5_in F a1 a2 a3 = some r0) (H : Heap) (locs : List Loc) (ls : Array Slot) (hl : lv_has ls 6 [(0, .long a1), (2, .long a2), (4, .long a3)]) (hP : va_P D vwCl [] H) (hD : va_D A []) (hS : va_S A H0 H locs)
    (hret : ∀ (H1 : Heap) (locs1 : List Loc) (ls1 : Array Slot) (pc1 : Nat), decode cX5_in pc1 = .ok (.ireturn, 1) → narrow .boolean (.int r0) = .int r0 → va_P D vwCl [] H1 → va_D A [] → va_S A H0 H1 locs1 → W p l e R s m args below meth c H1 locs1 cells slots Q (F0 m pc1 ls1 [.int r0])) : W p l e R s m args below meth c H locs cells slots Q (F0 m 0 ls []) := by
  unfold fnX5_in at hM
  refine lv_lload_n hx hb dX5_in_0 rfl (lv_at hl 0 rfl) ?_
  refine lv_lload_n hx hb dX5_in_1 rfl (lv_at hl 1 rfl) ?_
  refine W.lcmp hx hb dX5_in_2 ?_
  refine lv_if_lt (tgt := 17) hx hb dX5_in_3 (by decide) (fun c1 => ?_) (fun c1 => ?_)
  · replace hM := sx_ift c1 hM
    refine lv_iconst (v := 0) hx hb dX5_in_17 (by decide) ?_
    obtain rfl := sx_o1 hM
    exact hret _ _ _ _ dX5_in_18 rfl (hP.sub [] rfl) (hD.sub [] (by decide) rfl) hS
  · replace hM := sx_iff c1 hM
    refine lv_lload_n hx hb dX5_in_6 rfl (lv_at hl 0 rfl) ?_
    refine lv_lload hx hb dX5_in_7 (lv_at hl 2 rfl) ?_
    refine W.lcmp hx hb dX5_in_9 ?_
    refine lv_if_gt (tgt := 17) hx hb dX5_in_10 (by decide) (fun c2 => ?_) (fun c2 => ?_)
    · replace hM := sx_ift c2 hM
      refine lv_iconst (v := 0) hx hb dX5_in_17 (by decide) ?_
      obtain rfl := sx_o1 hM
      exact hret _ _ _ _ dX5_in_18 rfl (hP.sub [] rfl) (hD.sub [] (by decide) rfl) hS
    · replace hM := sx_iff c2 hM
      refine lv_iconst (v := 1) hx hb dX5_in_13 (by decide) ?_
      refine lv_goto (tgt := 18) hx hb dX5_in_14 (by decide) ?_
      obtain rfl := sx_o1 hM
      exact hret _ _ _ _ dX5_in_18 rfl (hP.sub [] rfl) (hD.sub [] (by decide) rfl) hS
set_option maxHeartbeats 4000000 in
set_option maxRecDepth 100000 in
theorem mtX5_in (l : Launch) (D : va_G) (cI cJ cS : ClassId) (sz : Nat) (a1 : Int64) (a2 : Int64) (a3 : Int64) (F : Nat) (r0 : Int32) (hM : fnX5_in F a1 a2 a3 = some r0) : sx_MI l yX5_in wsX5_in ({ frames := 0, cells := 0, slots := 0, locals := 0 }) D (sx_T cI cJ cS) sz [.long a1, .long a2, .long a3] [] r0 [] := by
  refine Met.ofW (cc := cX5_in) (maxL := 6) (ret := (some .boolean)) (by decide) rfl ?_
  intro p e s m args below meth c s₁ B hml hv
  obtain ⟨rfl, hsz, hN, hP, hK, hD0⟩ := hv
  subst hsz
  have hl := lv_entry ([.long a1, .long a2, .long a3]) (n := 6) (Nat.le_of_ble_eq_true rfl)
  rw [lg_entry_eq]
  generalize (lg_sl ([.long a1, .long a2, .long a3]) ++ List.replicate (6 - (lg_sl ([.long a1, .long a2, .long a3])).length) Slot.unset).toArray = ls at hl ⊢
  exact kwX5_in B.exec B.bytes hml (findClass_of_methodNamed B.named) (atoms_spec (ws := wsX5_in) B.pre) hN hK (fun q h => Or.inr h) (by decide) (by decide) ⟨Nat.zero_le _, Nat.zero_le _⟩ a1 a2 a3 F r0 hM _ _ _ hl hP hD0.self va_S.rf (fun H1 locs1 ls1 pc1 hd hz hP hD hS => W.zret (v := r0) B.exec B.bytes B.returns hz (fun t ht hW => ⟨⟨r0, (), rfl, rfl, by rw [ht]; exact hP, hD⟩, hS.F ht⟩) hS.2.2 hd)

def fnX5_isPerson (F : Nat) (m_now : Nat → Int32) (a1 : Int32) : Option (Int32) :=
  sx_c1 (fnX5_in F (a1).toInt64 (0 : Int64) (((m_now ((0 : Int32)).toNatClampNeg) - (1 : Int32))).toInt64) (fun (r1 : Int32) => sx_gd (sx_bl r1) ((some (r1))))
set_option maxHeartbeats 4000000 in
set_option maxRecDepth 100000 in
theorem kwX5_isPerson {p : Program} {l : Launch} {e : Env} {R : Room} {s : State} {m : MethodId} {args : Array Value} {below : List Frame} {meth : Method} {c : Code} {cells slots : Nat} {Q : State → Prop} {A : Nat → Prop} {H0 : Heap} {D : va_G} {cI cJ cS : ClassId} (hx : p.tables.exec = Jvm.exec) (hb : c.code = cX5_isPerson) (hml : c.maxLocals = 2) (hown : s.vm.findClass RX5 = some m.cls) (hts : ∀ w ∈ wsX5_isPerson, w.before args s = true) (hN : sx_N s) (hK : va_K D vwCl (sx_T cI cJ cS) s) (hA : ∀ q, H0.size ≤ q → A q) (hRf : 1 ≤ R.frames) (hRl : 25 ≤ R.locals) (hRc : cells ≤ R.cells ∧ slots ≤ R.slots) (m_h m_now_a m_tape_a m_read_a m_heard_a m_undone_a m_aside_a m_kept_a m_lanes_a m_sizes_a m_items_a m_moved_a : Nat) (m_now : Nat → Int32) (m_typed : Int32) (m_place : Int32) (m_isFault : Int32) (m_undos : Int32) (m_keptUndos : Int32) (m_isKept : Int32) (a1 : Int32) (F : Nat) (r0 : Int32) (hM : fnX5_isPerson F m_now a1 = some r0) (H : Heap) (locs : List Loc) (ls : Array Slot) (hl : lv_has ls 2 [(0, .ref m_h), (1, .int a1)]) (hP : va_P D vwCl [(m_h, .inr (5, [.ref m_now_a, .ref m_tape_a, .int m_typed, .int m_place, .int m_isFault, .ref m_read_a, .ref m_heard_a, .ref m_undone_a, .int m_undos, .ref m_aside_a, .ref m_kept_a, .int m_keptUndos, .int m_isKept, .ref m_lanes_a, .ref m_sizes_a, .ref m_items_a, .ref m_moved_a])), (m_now_a, .inl (cI, 65, .inl m_now))] H) (hD : va_D A [(m_h, .inr (5, [.ref m_now_a, .ref m_tape_a, .int m_typed, .int m_place, .int m_isFault, .ref m_read_a, .ref m_heard_a, .ref m_undone_a, .int m_undos, .ref m_aside_a, .ref m_kept_a, .int m_keptUndos, .int m_isKept, .ref m_lanes_a, .ref m_sizes_a, .ref m_items_a, .ref m_moved_a])), (m_now_a, .inl (cI, 65, .inl m_now))]) (hS : va_S A H0 H locs)
    (hret : ∀ (H1 : Heap) (locs1 : List Loc) (ls1 : Array Slot) (pc1 : Nat), decode cX5_isPerson pc1 = .ok (.ireturn, 1) → narrow .boolean (.int r0) = .int r0 → va_P D vwCl [(m_h, .inr (5, [.ref m_now_a, .ref m_tape_a, .int m_typed, .int m_place, .int m_isFault, .ref m_read_a, .ref m_heard_a, .ref m_undone_a, .int m_undos, .ref m_aside_a, .ref m_kept_a, .int m_keptUndos, .int m_isKept, .ref m_lanes_a, .ref m_sizes_a, .ref m_items_a, .ref m_moved_a])), (m_now_a, .inl (cI, 65, .inl m_now))] H1 → va_D A [(m_h, .inr (5, [.ref m_now_a, .ref m_tape_a, .int m_typed, .int m_place, .int m_isFault, .ref m_read_a, .ref m_heard_a, .ref m_undone_a, .int m_undos, .ref m_aside_a, .ref m_kept_a, .int m_keptUndos, .int m_isKept, .ref m_lanes_a, .ref m_sizes_a, .ref m_items_a, .ref m_moved_a])), (m_now_a, .inl (cI, 65, .inl m_now))] → va_S A H0 H1 locs1 → W p l e R s m args below meth c H1 locs1 cells slots Q (F0 m pc1 ls1 [.int r0])) : W p l e R s m args below meth c H locs cells slots Q (F0 m 0 ls []) := by
  have hf_7 := hts (.fieldLink RX5 7 "SealedLipsModel" "now" "[I") (by decide +kernel)
  have hin_X5 : ∀ w ∈ wsX50, w ∈ wsX5_isPerson := by decide +kernel
  unfold fnX5_isPerson at hM
  refine lv_iload_n hx hb dX5_isPerson_0 rfl (lv_at hl 1 rfl) ?_
  refine lv_i2l hx hb dX5_isPerson_1 rfl ?_
  refine lv_lconst (v := 0) hx hb dX5_isPerson_2 (by decide) ?_
  refine lv_aload_n hx hb dX5_isPerson_3 rfl (lv_at hl 0 rfl) ?_
  refine va_get (D := D) (ci := 5) (v := .ref m_now_a) (C := RX5) (T := TX5) (N := 17) hx hb hts hin_X5 hown hK hP 0 rfl rfl 0 (by decide) hf_7 (fun _ h9 => h9) rfl dX5_isPerson_4 ?_
  refine lv_iconst (v := 0) hx hb dX5_isPerson_7 (by decide) ?_
  refine va_iald hx hb hK hP 1 0 rfl rfl (sx_ib_s (by decide)) dX5_isPerson_8 ?_
  refine lv_iconst (v := 1) hx hb dX5_isPerson_9 (by decide) ?_
  refine lv_isub hx hb dX5_isPerson_10 ?_
  refine lv_i2l hx hb dX5_isPerson_11 rfl ?_
  obtain ⟨r1, hc2, hM⟩ := sx_c1_s hM
  refine sx_iS (As := [.long (a1).toInt64, .long (0 : Int64), .long (((m_now ((0 : Int32)).toNatClampNeg) - (1 : Int32))).toInt64]) (rest := []) (wc := []) (wr := [(m_h, .inr (5, [.ref m_now_a, .ref m_tape_a, .int m_typed, .int m_place, .int m_isFault, .ref m_read_a, .ref m_heard_a, .ref m_undone_a, .int m_undos, .ref m_aside_a, .ref m_kept_a, .int m_keptUndos, .int m_isKept, .ref m_lanes_a, .ref m_sizes_a, .ref m_items_a, .ref m_moved_a])), (m_now_a, .inl (cI, 65, .inl m_now))]) (w1 := []) ⟨hx, hb, hml, hown, hts⟩ (mtX5_in l D cI cJ cS H.size (a1).toInt64 (0 : Int64) (((m_now ((0 : Int32)).toNatClampNeg) - (1 : Int32))).toInt64 F r1 hc2) (va_cwS 3 hts gX5_isPerson_X5_in rfl rfl rfl (by decide +kernel) ⟨Nat.le_trans (by decide) hRf, Nat.le_trans (by decide) hRl⟩) hK hN hP hD hS hA [] [0, 1] rfl (by decide) rfl (by decide) (by decide) rfl hl.1 rfl (Nat.le_of_ble_eq_true rfl) dX5_isPerson_12 hRc (fun H locs hP hD hS => ?_)
  have hP : va_P D vwCl [(m_h, .inr (5, [.ref m_now_a, .ref m_tape_a, .int m_typed, .int m_place, .int m_isFault, .ref m_read_a, .ref m_heard_a, .ref m_undone_a, .int m_undos, .ref m_aside_a, .ref m_kept_a, .int m_keptUndos, .int m_isKept, .ref m_lanes_a, .ref m_sizes_a, .ref m_items_a, .ref m_moved_a])), (m_now_a, .inl (cI, 65, .inl m_now))] H := hP
  have hD : va_D A [(m_h, .inr (5, [.ref m_now_a, .ref m_tape_a, .int m_typed, .int m_place, .int m_isFault, .ref m_read_a, .ref m_heard_a, .ref m_undone_a, .int m_undos, .ref m_aside_a, .ref m_kept_a, .int m_keptUndos, .int m_isKept, .ref m_lanes_a, .ref m_sizes_a, .ref m_items_a, .ref m_moved_a])), (m_now_a, .inl (cI, 65, .inl m_now))] := hD
  obtain ⟨g3, hM⟩ := sx_gd_s hM
  obtain rfl := sx_o1 hM
  exact hret _ _ _ _ dX5_isPerson_15 (sx_bl_s g3).1 (hP.sub [0, 1] rfl) (hD.sub [0, 1] (by decide) rfl) hS
set_option maxHeartbeats 4000000 in
set_option maxRecDepth 100000 in
theorem mtX5_isPerson (l : Launch) (D : va_G) (cI cJ cS : ClassId) (sz : Nat) (m_h m_now_a m_tape_a m_read_a m_heard_a m_undone_a m_aside_a m_kept_a m_lanes_a m_sizes_a m_items_a m_moved_a : Nat) (m_now : Nat → Int32) (m_typed : Int32) (m_place : Int32) (m_isFault : Int32) (m_undos : Int32) (m_keptUndos : Int32) (m_isKept : Int32) (a1 : Int32) (F : Nat) (r0 : Int32) (hM : fnX5_isPerson F m_now a1 = some r0) : sx_MI l yX5_isPerson wsX5_isPerson ({ frames := 1, cells := 0, slots := 0, locals := 25 }) D (sx_T cI cJ cS) sz [.ref m_h, .int a1] [(m_h, .inr (5, [.ref m_now_a, .ref m_tape_a, .int m_typed, .int m_place, .int m_isFault, .ref m_read_a, .ref m_heard_a, .ref m_undone_a, .int m_undos, .ref m_aside_a, .ref m_kept_a, .int m_keptUndos, .int m_isKept, .ref m_lanes_a, .ref m_sizes_a, .ref m_items_a, .ref m_moved_a])), (m_now_a, .inl (cI, 65, .inl m_now))] r0 [(m_h, .inr (5, [.ref m_now_a, .ref m_tape_a, .int m_typed, .int m_place, .int m_isFault, .ref m_read_a, .ref m_heard_a, .ref m_undone_a, .int m_undos, .ref m_aside_a, .ref m_kept_a, .int m_keptUndos, .int m_isKept, .ref m_lanes_a, .ref m_sizes_a, .ref m_items_a, .ref m_moved_a])), (m_now_a, .inl (cI, 65, .inl m_now))] := by
  refine Met.ofW (cc := cX5_isPerson) (maxL := 2) (ret := (some .boolean)) (by decide) rfl ?_
  intro p e s m args below meth c s₁ B hml hv
  obtain ⟨rfl, hsz, hN, hP, hK, hD0⟩ := hv
  subst hsz
  have hl := lv_entry ([.ref m_h, .int a1]) (n := 2) (Nat.le_of_ble_eq_true rfl)
  rw [lg_entry_eq]
  generalize (lg_sl ([.ref m_h, .int a1]) ++ List.replicate (2 - (lg_sl ([.ref m_h, .int a1])).length) Slot.unset).toArray = ls at hl ⊢
  exact kwX5_isPerson B.exec B.bytes hml (findClass_of_methodNamed B.named) (atoms_spec (ws := wsX5_isPerson) B.pre) hN hK (fun q h => Or.inr h) (by decide) (by decide) ⟨Nat.zero_le _, Nat.zero_le _⟩ m_h m_now_a m_tape_a m_read_a m_heard_a m_undone_a m_aside_a m_kept_a m_lanes_a m_sizes_a m_items_a m_moved_a m_now m_typed m_place m_isFault m_undos m_keptUndos m_isKept a1 F r0 hM _ _ _ hl hP hD0.self va_S.rf (fun H1 locs1 ls1 pc1 hd hz hP hD hS => W.zret (v := r0) B.exec B.bytes B.returns hz (fun t ht hW => ⟨⟨r0, (), rfl, rfl, by rw [ht]; exact hP, hD⟩, hS.F ht⟩) hS.2.2 hd)

def fnX5_isThing (F : Nat) (a1 : Int32) : Option (Int32) :=
  sx_c1 (fnX5_in F (a1).toInt64 (0 : Int64) (7 : Int64)) (fun (r1 : Int32) => sx_gd (sx_bl r1) ((some (r1))))
set_option maxHeartbeats 4000000 in
set_option maxRecDepth 100000 in
theorem kwX5_isThing {p : Program} {l : Launch} {e : Env} {R : Room} {s : State} {m : MethodId} {args : Array Value} {below : List Frame} {meth : Method} {c : Code} {cells slots : Nat} {Q : State → Prop} {A : Nat → Prop} {H0 : Heap} {D : va_G} {cI cJ cS : ClassId} (hx : p.tables.exec = Jvm.exec) (hb : c.code = cX5_isThing) (hml : c.maxLocals = 1) (hown : s.vm.findClass RX5 = some m.cls) (hts : ∀ w ∈ wsX5_isThing, w.before args s = true) (hN : sx_N s) (hK : va_K D vwCl (sx_T cI cJ cS) s) (hA : ∀ q, H0.size ≤ q → A q) (hRf : 1 ≤ R.frames) (hRl : 25 ≤ R.locals) (hRc : cells ≤ R.cells ∧ slots ≤ R.slots) (a1 : Int32) (F : Nat) (r0 : Int32) (hM : fnX5_isThing F a1 = some r0) (H : Heap) (locs : List Loc) (ls : Array Slot) (hl : lv_has ls 1 [(0, .int a1)]) (hP : va_P D vwCl [] H) (hD : va_D A []) (hS : va_S A H0 H locs)
    (hret : ∀ (H1 : Heap) (locs1 : List Loc) (ls1 : Array Slot) (pc1 : Nat), decode cX5_isThing pc1 = .ok (.ireturn, 1) → narrow .boolean (.int r0) = .int r0 → va_P D vwCl [] H1 → va_D A [] → va_S A H0 H1 locs1 → W p l e R s m args below meth c H1 locs1 cells slots Q (F0 m pc1 ls1 [.int r0])) : W p l e R s m args below meth c H locs cells slots Q (F0 m 0 ls []) := by
  unfold fnX5_isThing at hM
  refine lv_iload_n hx hb dX5_isThing_0 rfl (lv_at hl 0 rfl) ?_
  refine lv_i2l hx hb dX5_isThing_1 rfl ?_
  refine lv_lconst (v := 0) hx hb dX5_isThing_2 (by decide) ?_
  refine lv_ldc2 (v := 7) hx hb hown (hts (.constantLong RX5 48 (7)) (by decide +kernel)) dX5_isThing_3 ?_
  obtain ⟨r1, hc2, hM⟩ := sx_c1_s hM
  refine sx_iS (As := [.long (a1).toInt64, .long (0 : Int64), .long (7 : Int64)]) (rest := []) (wc := []) (wr := []) (w1 := []) ⟨hx, hb, hml, hown, hts⟩ (mtX5_in l D cI cJ cS H.size (a1).toInt64 (0 : Int64) (7 : Int64) F r1 hc2) (va_cwS 3 hts gX5_isThing_X5_in rfl rfl rfl (by decide +kernel) ⟨Nat.le_trans (by decide) hRf, Nat.le_trans (by decide) hRl⟩) hK hN hP hD hS hA [] [] rfl (by decide) rfl (by decide) (by decide) rfl hl.1 rfl (Nat.le_of_ble_eq_true rfl) dX5_isThing_6 hRc (fun H locs hP hD hS => ?_)
  have hP : va_P D vwCl [] H := hP
  have hD : va_D A [] := hD
  obtain ⟨g3, hM⟩ := sx_gd_s hM
  obtain rfl := sx_o1 hM
  exact hret _ _ _ _ dX5_isThing_9 (sx_bl_s g3).1 (hP.sub [] rfl) (hD.sub [] (by decide) rfl) hS
set_option maxHeartbeats 4000000 in
set_option maxRecDepth 100000 in
theorem mtX5_isThing (l : Launch) (D : va_G) (cI cJ cS : ClassId) (sz : Nat) (a1 : Int32) (F : Nat) (r0 : Int32) (hM : fnX5_isThing F a1 = some r0) : sx_MI l yX5_isThing wsX5_isThing ({ frames := 1, cells := 0, slots := 0, locals := 25 }) D (sx_T cI cJ cS) sz [.int a1] [] r0 [] := by
  refine Met.ofW (cc := cX5_isThing) (maxL := 1) (ret := (some .boolean)) (by decide) rfl ?_
  intro p e s m args below meth c s₁ B hml hv
  obtain ⟨rfl, hsz, hN, hP, hK, hD0⟩ := hv
  subst hsz
  have hl := lv_entry ([.int a1]) (n := 1) (Nat.le_of_ble_eq_true rfl)
  rw [lg_entry_eq]
  generalize (lg_sl ([.int a1]) ++ List.replicate (1 - (lg_sl ([.int a1])).length) Slot.unset).toArray = ls at hl ⊢
  exact kwX5_isThing B.exec B.bytes hml (findClass_of_methodNamed B.named) (atoms_spec (ws := wsX5_isThing) B.pre) hN hK (fun q h => Or.inr h) (by decide) (by decide) ⟨Nat.zero_le _, Nat.zero_le _⟩ a1 F r0 hM _ _ _ hl hP hD0.self va_S.rf (fun H1 locs1 ls1 pc1 hd hz hP hD hS => W.zret (v := r0) B.exec B.bytes B.returns hz (fun t ht hW => ⟨⟨r0, (), rfl, rfl, by rw [ht]; exact hP, hD⟩, hS.F ht⟩) hS.2.2 hd)

def fnX5_isHeat (F : Nat) (a1 : Int32) : Option (Int32) :=
  sx_c1 (fnX5_in F (a1).toInt64 (0 : Int64) (9 : Int64)) (fun (r1 : Int32) => sx_gd (sx_bl r1) ((some (r1))))
set_option maxHeartbeats 4000000 in
set_option maxRecDepth 100000 in
theorem kwX5_isHeat {p : Program} {l : Launch} {e : Env} {R : Room} {s : State} {m : MethodId} {args : Array Value} {below : List Frame} {meth : Method} {c : Code} {cells slots : Nat} {Q : State → Prop} {A : Nat → Prop} {H0 : Heap} {D : va_G} {cI cJ cS : ClassId} (hx : p.tables.exec = Jvm.exec) (hb : c.code = cX5_isHeat) (hml : c.maxLocals = 1) (hown : s.vm.findClass RX5 = some m.cls) (hts : ∀ w ∈ wsX5_isHeat, w.before args s = true) (hN : sx_N s) (hK : va_K D vwCl (sx_T cI cJ cS) s) (hA : ∀ q, H0.size ≤ q → A q) (hRf : 1 ≤ R.frames) (hRl : 25 ≤ R.locals) (hRc : cells ≤ R.cells ∧ slots ≤ R.slots) (a1 : Int32) (F : Nat) (r0 : Int32) (hM : fnX5_isHeat F a1 = some r0) (H : Heap) (locs : List Loc) (ls : Array Slot) (hl : lv_has ls 1 [(0, .int a1)]) (hP : va_P D vwCl [] H) (hD : va_D A []) (hS : va_S A H0 H locs)
    (hret : ∀ (H1 : Heap) (locs1 : List Loc) (ls1 : Array Slot) (pc1 : Nat), decode cX5_isHeat pc1 = .ok (.ireturn, 1) → narrow .boolean (.int r0) = .int r0 → va_P D vwCl [] H1 → va_D A [] → va_S A H0 H1 locs1 → W p l e R s m args below meth c H1 locs1 cells slots Q (F0 m pc1 ls1 [.int r0])) : W p l e R s m args below meth c H locs cells slots Q (F0 m 0 ls []) := by
  unfold fnX5_isHeat at hM
  refine lv_iload_n hx hb dX5_isHeat_0 rfl (lv_at hl 0 rfl) ?_
  refine lv_i2l hx hb dX5_isHeat_1 rfl ?_
  refine lv_lconst (v := 0) hx hb dX5_isHeat_2 (by decide) ?_
  refine lv_ldc2 (v := 9) hx hb hown (hts (.constantLong RX5 50 (9)) (by decide +kernel)) dX5_isHeat_3 ?_
  obtain ⟨r1, hc2, hM⟩ := sx_c1_s hM
  refine sx_iS (As := [.long (a1).toInt64, .long (0 : Int64), .long (9 : Int64)]) (rest := []) (wc := []) (wr := []) (w1 := []) ⟨hx, hb, hml, hown, hts⟩ (mtX5_in l D cI cJ cS H.size (a1).toInt64 (0 : Int64) (9 : Int64) F r1 hc2) (va_cwS 3 hts gX5_isHeat_X5_in rfl rfl rfl (by decide +kernel) ⟨Nat.le_trans (by decide) hRf, Nat.le_trans (by decide) hRl⟩) hK hN hP hD hS hA [] [] rfl (by decide) rfl (by decide) (by decide) rfl hl.1 rfl (Nat.le_of_ble_eq_true rfl) dX5_isHeat_6 hRc (fun H locs hP hD hS => ?_)
  have hP : va_P D vwCl [] H := hP
  have hD : va_D A [] := hD
  obtain ⟨g3, hM⟩ := sx_gd_s hM
  obtain rfl := sx_o1 hM
  exact hret _ _ _ _ dX5_isHeat_9 (sx_bl_s g3).1 (hP.sub [] rfl) (hD.sub [] (by decide) rfl) hS
set_option maxHeartbeats 4000000 in
set_option maxRecDepth 100000 in
theorem mtX5_isHeat (l : Launch) (D : va_G) (cI cJ cS : ClassId) (sz : Nat) (a1 : Int32) (F : Nat) (r0 : Int32) (hM : fnX5_isHeat F a1 = some r0) : sx_MI l yX5_isHeat wsX5_isHeat ({ frames := 1, cells := 0, slots := 0, locals := 25 }) D (sx_T cI cJ cS) sz [.int a1] [] r0 [] := by
  refine Met.ofW (cc := cX5_isHeat) (maxL := 1) (ret := (some .boolean)) (by decide) rfl ?_
  intro p e s m args below meth c s₁ B hml hv
  obtain ⟨rfl, hsz, hN, hP, hK, hD0⟩ := hv
  subst hsz
  have hl := lv_entry ([.int a1]) (n := 1) (Nat.le_of_ble_eq_true rfl)
  rw [lg_entry_eq]
  generalize (lg_sl ([.int a1]) ++ List.replicate (1 - (lg_sl ([.int a1])).length) Slot.unset).toArray = ls at hl ⊢
  exact kwX5_isHeat B.exec B.bytes hml (findClass_of_methodNamed B.named) (atoms_spec (ws := wsX5_isHeat) B.pre) hN hK (fun q h => Or.inr h) (by decide) (by decide) ⟨Nat.zero_le _, Nat.zero_le _⟩ a1 F r0 hM _ _ _ hl hP hD0.self va_S.rf (fun H1 locs1 ls1 pc1 hd hz hP hD hS => W.zret (v := r0) B.exec B.bytes B.returns hz (fun t ht hW => ⟨⟨r0, (), rfl, rfl, by rw [ht]; exact hP, hD⟩, hS.F ht⟩) hS.2.2 hd)

def fnX5_sealOf (F : Nat) (m_now : Nat → Int32) (a1 : Int32) (a2 : Int32) : Option (Int32) :=
  sx_gd (sx_ib (((17 : Int32) + ((8 : Int32) * a1)) + a2) 65) ((some ((m_now ((((17 : Int32) + ((8 : Int32) * a1)) + a2)).toNatClampNeg))))
set_option maxHeartbeats 4000000 in
set_option maxRecDepth 100000 in
theorem kwX5_sealOf {p : Program} {l : Launch} {e : Env} {R : Room} {s : State} {m : MethodId} {args : Array Value} {below : List Frame} {meth : Method} {c : Code} {cells slots : Nat} {Q : State → Prop} {A : Nat → Prop} {H0 : Heap} {D : va_G} {cI cJ cS : ClassId} (hx : p.tables.exec = Jvm.exec) (hb : c.code = cX5_sealOf) (hml : c.maxLocals = 3) (hown : s.vm.findClass RX5 = some m.cls) (hts : ∀ w ∈ wsX5_sealOf, w.before args s = true) (hN : sx_N s) (hK : va_K D vwCl (sx_T cI cJ cS) s) (hA : ∀ q, H0.size ≤ q → A q) (hRf : 0 ≤ R.frames) (hRl : 0 ≤ R.locals) (hRc : cells ≤ R.cells ∧ slots ≤ R.slots) (m_h m_now_a m_tape_a m_read_a m_heard_a m_undone_a m_aside_a m_kept_a m_lanes_a m_sizes_a m_items_a m_moved_a : Nat) (m_now : Nat → Int32) (m_typed : Int32) (m_place : Int32) (m_isFault : Int32) (m_undos : Int32) (m_keptUndos : Int32) (m_isKept : Int32) (a1 : Int32) (a2 : Int32) (F : Nat) (r0 : Int32) (hM : fnX5_sealOf F m_now a1 a2 = some r0) (H : Heap) (locs : List Loc) (ls : Array Slot) (hl : lv_has ls 3 [(0, .ref m_h), (1, .int a1), (2, .int a2)]) (hP : va_P D vwCl [(m_h, .inr (5, [.ref m_now_a, .ref m_tape_a, .int m_typed, .int m_place, .int m_isFault, .ref m_read_a, .ref m_heard_a, .ref m_undone_a, .int m_undos, .ref m_aside_a, .ref m_kept_a, .int m_keptUndos, .int m_isKept, .ref m_lanes_a, .ref m_sizes_a, .ref m_items_a, .ref m_moved_a])), (m_now_a, .inl (cI, 65, .inl m_now))] H) (hD : va_D A [(m_h, .inr (5, [.ref m_now_a, .ref m_tape_a, .int m_typed, .int m_place, .int m_isFault, .ref m_read_a, .ref m_heard_a, .ref m_undone_a, .int m_undos, .ref m_aside_a, .ref m_kept_a, .int m_keptUndos, .int m_isKept, .ref m_lanes_a, .ref m_sizes_a, .ref m_items_a, .ref m_moved_a])), (m_now_a, .inl (cI, 65, .inl m_now))]) (hS : va_S A H0 H locs)
    (hret : ∀ (H1 : Heap) (locs1 : List Loc) (ls1 : Array Slot) (pc1 : Nat), decode cX5_sealOf pc1 = .ok (.ireturn, 1) → va_P D vwCl [(m_h, .inr (5, [.ref m_now_a, .ref m_tape_a, .int m_typed, .int m_place, .int m_isFault, .ref m_read_a, .ref m_heard_a, .ref m_undone_a, .int m_undos, .ref m_aside_a, .ref m_kept_a, .int m_keptUndos, .int m_isKept, .ref m_lanes_a, .ref m_sizes_a, .ref m_items_a, .ref m_moved_a])), (m_now_a, .inl (cI, 65, .inl m_now))] H1 → va_D A [(m_h, .inr (5, [.ref m_now_a, .ref m_tape_a, .int m_typed, .int m_place, .int m_isFault, .ref m_read_a, .ref m_heard_a, .ref m_undone_a, .int m_undos, .ref m_aside_a, .ref m_kept_a, .int m_keptUndos, .int m_isKept, .ref m_lanes_a, .ref m_sizes_a, .ref m_items_a, .ref m_moved_a])), (m_now_a, .inl (cI, 65, .inl m_now))] → va_S A H0 H1 locs1 → W p l e R s m args below meth c H1 locs1 cells slots Q (F0 m pc1 ls1 [.int r0])) : W p l e R s m args below meth c H locs cells slots Q (F0 m 0 ls []) := by
  have hf_7 := hts (.fieldLink RX5 7 "SealedLipsModel" "now" "[I") (by decide +kernel)
  have hin_X5 : ∀ w ∈ wsX50, w ∈ wsX5_sealOf := by decide +kernel
  unfold fnX5_sealOf at hM
  refine lv_aload_n hx hb dX5_sealOf_0 rfl (lv_at hl 0 rfl) ?_
  refine va_get (D := D) (ci := 5) (v := .ref m_now_a) (C := RX5) (T := TX5) (N := 17) hx hb hts hin_X5 hown hK hP 0 rfl rfl 0 (by decide) hf_7 (fun _ h9 => h9) rfl dX5_sealOf_1 ?_
  refine lv_bipush (v := 17) hx hb dX5_sealOf_4 (by decide) ?_
  refine lv_bipush (v := 8) hx hb dX5_sealOf_6 (by decide) ?_
  refine lv_iload_n hx hb dX5_sealOf_8 rfl (lv_at hl 1 rfl) ?_
  refine lv_imul hx hb dX5_sealOf_9 ?_
  refine lv_iadd hx hb dX5_sealOf_10 ?_
  refine lv_iload_n hx hb dX5_sealOf_11 rfl (lv_at hl 2 rfl) ?_
  refine lv_iadd hx hb dX5_sealOf_12 ?_
  obtain ⟨g1, hM⟩ := sx_gd_s hM
  refine va_iald hx hb hK hP 1 0 rfl rfl (sx_ib_s g1) dX5_sealOf_13 ?_
  obtain rfl := sx_o1 hM
  exact hret _ _ _ _ dX5_sealOf_14 (hP.sub [0, 1] rfl) (hD.sub [0, 1] (by decide) rfl) hS
set_option maxHeartbeats 4000000 in
set_option maxRecDepth 100000 in
theorem mtX5_sealOf (l : Launch) (D : va_G) (cI cJ cS : ClassId) (sz : Nat) (m_h m_now_a m_tape_a m_read_a m_heard_a m_undone_a m_aside_a m_kept_a m_lanes_a m_sizes_a m_items_a m_moved_a : Nat) (m_now : Nat → Int32) (m_typed : Int32) (m_place : Int32) (m_isFault : Int32) (m_undos : Int32) (m_keptUndos : Int32) (m_isKept : Int32) (a1 : Int32) (a2 : Int32) (F : Nat) (r0 : Int32) (hM : fnX5_sealOf F m_now a1 a2 = some r0) : sx_MI l yX5_sealOf wsX5_sealOf ({ frames := 0, cells := 0, slots := 0, locals := 0 }) D (sx_T cI cJ cS) sz [.ref m_h, .int a1, .int a2] [(m_h, .inr (5, [.ref m_now_a, .ref m_tape_a, .int m_typed, .int m_place, .int m_isFault, .ref m_read_a, .ref m_heard_a, .ref m_undone_a, .int m_undos, .ref m_aside_a, .ref m_kept_a, .int m_keptUndos, .int m_isKept, .ref m_lanes_a, .ref m_sizes_a, .ref m_items_a, .ref m_moved_a])), (m_now_a, .inl (cI, 65, .inl m_now))] r0 [(m_h, .inr (5, [.ref m_now_a, .ref m_tape_a, .int m_typed, .int m_place, .int m_isFault, .ref m_read_a, .ref m_heard_a, .ref m_undone_a, .int m_undos, .ref m_aside_a, .ref m_kept_a, .int m_keptUndos, .int m_isKept, .ref m_lanes_a, .ref m_sizes_a, .ref m_items_a, .ref m_moved_a])), (m_now_a, .inl (cI, 65, .inl m_now))] := by
  refine Met.ofW (cc := cX5_sealOf) (maxL := 3) (ret := (some .int)) (by decide) rfl ?_
  intro p e s m args below meth c s₁ B hml hv
  obtain ⟨rfl, hsz, hN, hP, hK, hD0⟩ := hv
  subst hsz
  have hl := lv_entry ([.ref m_h, .int a1, .int a2]) (n := 3) (Nat.le_of_ble_eq_true rfl)
  rw [lg_entry_eq]
  generalize (lg_sl ([.ref m_h, .int a1, .int a2]) ++ List.replicate (3 - (lg_sl ([.ref m_h, .int a1, .int a2])).length) Slot.unset).toArray = ls at hl ⊢
  exact kwX5_sealOf B.exec B.bytes hml (findClass_of_methodNamed B.named) (atoms_spec (ws := wsX5_sealOf) B.pre) hN hK (fun q h => Or.inr h) (by decide) (by decide) ⟨Nat.zero_le _, Nat.zero_le _⟩ m_h m_now_a m_tape_a m_read_a m_heard_a m_undone_a m_aside_a m_kept_a m_lanes_a m_sizes_a m_items_a m_moved_a m_now m_typed m_place m_isFault m_undos m_keptUndos m_isKept a1 a2 F r0 hM _ _ _ hl hP hD0.self va_S.rf (fun H1 locs1 ls1 pc1 hd hP hD hS => W.iret (v := r0) B.exec B.bytes B.returns (fun t ht hW => ⟨⟨r0, (), rfl, rfl, by rw [ht]; exact hP, hD⟩, hS.F ht⟩) hS.2.2 hd)

def fnX5_knows (F : Nat) (m_now : Nat → Int32) (a1 : Int32) (a2 : Int32) : Option (Int32) :=
  sx_c1 (fnX5_sealOf F m_now a1 a2) (fun (r1 : Int32) => (if r1 < 0 then (some ((0 : Int32))) else (some ((1 : Int32)))))
set_option maxHeartbeats 4000000 in
set_option maxRecDepth 100000 in
theorem kwX5_knows {p : Program} {l : Launch} {e : Env} {R : Room} {s : State} {m : MethodId} {args : Array Value} {below : List Frame} {meth : Method} {c : Code} {cells slots : Nat} {Q : State → Prop} {A : Nat → Prop} {H0 : Heap} {D : va_G} {cI cJ cS : ClassId} (hx : p.tables.exec = Jvm.exec) (hb : c.code = cX5_knows) (hml : c.maxLocals = 3) (hown : s.vm.findClass RX5 = some m.cls) (hts : ∀ w ∈ wsX5_knows, w.before args s = true) (hN : sx_N s) (hK : va_K D vwCl (sx_T cI cJ cS) s) (hA : ∀ q, H0.size ≤ q → A q) (hRf : 1 ≤ R.frames) (hRl : 22 ≤ R.locals) (hRc : cells ≤ R.cells ∧ slots ≤ R.slots) (m_h m_now_a m_tape_a m_read_a m_heard_a m_undone_a m_aside_a m_kept_a m_lanes_a m_sizes_a m_items_a m_moved_a : Nat) (m_now : Nat → Int32) (m_typed : Int32) (m_place : Int32) (m_isFault : Int32) (m_undos : Int32) (m_keptUndos : Int32) (m_isKept : Int32) (a1 : Int32) (a2 : Int32) (F : Nat) (r0 : Int32) (hM : fnX5_knows F m_now a1 a2 = some r0) (H : Heap) (locs : List Loc) (ls : Array Slot) (hl : lv_has ls 3 [(0, .ref m_h), (1, .int a1), (2, .int a2)]) (hP : va_P D vwCl [(m_h, .inr (5, [.ref m_now_a, .ref m_tape_a, .int m_typed, .int m_place, .int m_isFault, .ref m_read_a, .ref m_heard_a, .ref m_undone_a, .int m_undos, .ref m_aside_a, .ref m_kept_a, .int m_keptUndos, .int m_isKept, .ref m_lanes_a, .ref m_sizes_a, .ref m_items_a, .ref m_moved_a])), (m_now_a, .inl (cI, 65, .inl m_now))] H) (hD : va_D A [(m_h, .inr (5, [.ref m_now_a, .ref m_tape_a, .int m_typed, .int m_place, .int m_isFault, .ref m_read_a, .ref m_heard_a, .ref m_undone_a, .int m_undos, .ref m_aside_a, .ref m_kept_a, .int m_keptUndos, .int m_isKept, .ref m_lanes_a, .ref m_sizes_a, .ref m_items_a, .ref m_moved_a])), (m_now_a, .inl (cI, 65, .inl m_now))]) (hS : va_S A H0 H locs)
    (hret : ∀ (H1 : Heap) (locs1 : List Loc) (ls1 : Array Slot) (pc1 : Nat), decode cX5_knows pc1 = .ok (.ireturn, 1) → narrow .boolean (.int r0) = .int r0 → va_P D vwCl [(m_h, .inr (5, [.ref m_now_a, .ref m_tape_a, .int m_typed, .int m_place, .int m_isFault, .ref m_read_a, .ref m_heard_a, .ref m_undone_a, .int m_undos, .ref m_aside_a, .ref m_kept_a, .int m_keptUndos, .int m_isKept, .ref m_lanes_a, .ref m_sizes_a, .ref m_items_a, .ref m_moved_a])), (m_now_a, .inl (cI, 65, .inl m_now))] H1 → va_D A [(m_h, .inr (5, [.ref m_now_a, .ref m_tape_a, .int m_typed, .int m_place, .int m_isFault, .ref m_read_a, .ref m_heard_a, .ref m_undone_a, .int m_undos, .ref m_aside_a, .ref m_kept_a, .int m_keptUndos, .int m_isKept, .ref m_lanes_a, .ref m_sizes_a, .ref m_items_a, .ref m_moved_a])), (m_now_a, .inl (cI, 65, .inl m_now))] → va_S A H0 H1 locs1 → W p l e R s m args below meth c H1 locs1 cells slots Q (F0 m pc1 ls1 [.int r0])) : W p l e R s m args below meth c H locs cells slots Q (F0 m 0 ls []) := by
  unfold fnX5_knows at hM
  refine lv_aload_n hx hb dX5_knows_0 rfl (lv_at hl 0 rfl) ?_
  refine lv_iload_n hx hb dX5_knows_1 rfl (lv_at hl 1 rfl) ?_
  refine lv_iload_n hx hb dX5_knows_2 rfl (lv_at hl 2 rfl) ?_
  obtain ⟨r1, hc2, hM⟩ := sx_c1_s hM
  refine sx_iV (As := [.int a1, .int a2]) (rest := []) (wc := [(m_h, .inr (5, [.ref m_now_a, .ref m_tape_a, .int m_typed, .int m_place, .int m_isFault, .ref m_read_a, .ref m_heard_a, .ref m_undone_a, .int m_undos, .ref m_aside_a, .ref m_kept_a, .int m_keptUndos, .int m_isKept, .ref m_lanes_a, .ref m_sizes_a, .ref m_items_a, .ref m_moved_a])), (m_now_a, .inl (cI, 65, .inl m_now))]) (wr := []) (w1 := [(m_h, .inr (5, [.ref m_now_a, .ref m_tape_a, .int m_typed, .int m_place, .int m_isFault, .ref m_read_a, .ref m_heard_a, .ref m_undone_a, .int m_undos, .ref m_aside_a, .ref m_kept_a, .int m_keptUndos, .int m_isKept, .ref m_lanes_a, .ref m_sizes_a, .ref m_items_a, .ref m_moved_a])), (m_now_a, .inl (cI, 65, .inl m_now))]) ⟨hx, hb, hml, hown, hts⟩ (mtX5_sealOf l D cI cJ cS H.size m_h m_now_a m_tape_a m_read_a m_heard_a m_undone_a m_aside_a m_kept_a m_lanes_a m_sizes_a m_items_a m_moved_a m_now m_typed m_place m_isFault m_undos m_keptUndos m_isKept a1 a2 F r1 hc2) (cwV 2 hts gX5_knows_X5_sealOf rfl rfl rfl (by decide +kernel) ⟨Nat.le_trans (by decide) hRf, Nat.le_trans (by decide) hRl⟩) hK hN hP hD hS hA [0, 1] [] rfl (by decide) rfl (by decide) (by decide) rfl rfl rfl rfl hl.1 rfl (Nat.le_of_ble_eq_true rfl) dX5_knows_3 hRc (fun H locs hP hD hS => ?_)
  have hP : va_P D vwCl [(m_h, .inr (5, [.ref m_now_a, .ref m_tape_a, .int m_typed, .int m_place, .int m_isFault, .ref m_read_a, .ref m_heard_a, .ref m_undone_a, .int m_undos, .ref m_aside_a, .ref m_kept_a, .int m_keptUndos, .int m_isKept, .ref m_lanes_a, .ref m_sizes_a, .ref m_items_a, .ref m_moved_a])), (m_now_a, .inl (cI, 65, .inl m_now))] H := hP
  have hD : va_D A [(m_h, .inr (5, [.ref m_now_a, .ref m_tape_a, .int m_typed, .int m_place, .int m_isFault, .ref m_read_a, .ref m_heard_a, .ref m_undone_a, .int m_undos, .ref m_aside_a, .ref m_kept_a, .int m_keptUndos, .int m_isKept, .ref m_lanes_a, .ref m_sizes_a, .ref m_items_a, .ref m_moved_a])), (m_now_a, .inl (cI, 65, .inl m_now))] := hD
  refine lv_if_lt (tgt := 13) hx hb dX5_knows_6 (by decide) (fun c3 => ?_) (fun c3 => ?_)
  · replace hM := sx_ift c3 hM
    refine lv_iconst (v := 0) hx hb dX5_knows_13 (by decide) ?_
    obtain rfl := sx_o1 hM
    exact hret _ _ _ _ dX5_knows_14 rfl (hP.sub [0, 1] rfl) (hD.sub [0, 1] (by decide) rfl) hS
  · replace hM := sx_iff c3 hM
    refine lv_iconst (v := 1) hx hb dX5_knows_9 (by decide) ?_
    refine lv_goto (tgt := 14) hx hb dX5_knows_10 (by decide) ?_
    obtain rfl := sx_o1 hM
    exact hret _ _ _ _ dX5_knows_14 rfl (hP.sub [0, 1] rfl) (hD.sub [0, 1] (by decide) rfl) hS
set_option maxHeartbeats 4000000 in
set_option maxRecDepth 100000 in
theorem mtX5_knows (l : Launch) (D : va_G) (cI cJ cS : ClassId) (sz : Nat) (m_h m_now_a m_tape_a m_read_a m_heard_a m_undone_a m_aside_a m_kept_a m_lanes_a m_sizes_a m_items_a m_moved_a : Nat) (m_now : Nat → Int32) (m_typed : Int32) (m_place : Int32) (m_isFault : Int32) (m_undos : Int32) (m_keptUndos : Int32) (m_isKept : Int32) (a1 : Int32) (a2 : Int32) (F : Nat) (r0 : Int32) (hM : fnX5_knows F m_now a1 a2 = some r0) : sx_MI l yX5_knows wsX5_knows ({ frames := 1, cells := 0, slots := 0, locals := 22 }) D (sx_T cI cJ cS) sz [.ref m_h, .int a1, .int a2] [(m_h, .inr (5, [.ref m_now_a, .ref m_tape_a, .int m_typed, .int m_place, .int m_isFault, .ref m_read_a, .ref m_heard_a, .ref m_undone_a, .int m_undos, .ref m_aside_a, .ref m_kept_a, .int m_keptUndos, .int m_isKept, .ref m_lanes_a, .ref m_sizes_a, .ref m_items_a, .ref m_moved_a])), (m_now_a, .inl (cI, 65, .inl m_now))] r0 [(m_h, .inr (5, [.ref m_now_a, .ref m_tape_a, .int m_typed, .int m_place, .int m_isFault, .ref m_read_a, .ref m_heard_a, .ref m_undone_a, .int m_undos, .ref m_aside_a, .ref m_kept_a, .int m_keptUndos, .int m_isKept, .ref m_lanes_a, .ref m_sizes_a, .ref m_items_a, .ref m_moved_a])), (m_now_a, .inl (cI, 65, .inl m_now))] := by
  refine Met.ofW (cc := cX5_knows) (maxL := 3) (ret := (some .boolean)) (by decide) rfl ?_
  intro p e s m args below meth c s₁ B hml hv
  obtain ⟨rfl, hsz, hN, hP, hK, hD0⟩ := hv
  subst hsz
  have hl := lv_entry ([.ref m_h, .int a1, .int a2]) (n := 3) (Nat.le_of_ble_eq_true rfl)
  rw [lg_entry_eq]
  generalize (lg_sl ([.ref m_h, .int a1, .int a2]) ++ List.replicate (3 - (lg_sl ([.ref m_h, .int a1, .int a2])).length) Slot.unset).toArray = ls at hl ⊢
  exact kwX5_knows B.exec B.bytes hml (findClass_of_methodNamed B.named) (atoms_spec (ws := wsX5_knows) B.pre) hN hK (fun q h => Or.inr h) (by decide) (by decide) ⟨Nat.zero_le _, Nat.zero_le _⟩ m_h m_now_a m_tape_a m_read_a m_heard_a m_undone_a m_aside_a m_kept_a m_lanes_a m_sizes_a m_items_a m_moved_a m_now m_typed m_place m_isFault m_undos m_keptUndos m_isKept a1 a2 F r0 hM _ _ _ hl hP hD0.self va_S.rf (fun H1 locs1 ls1 pc1 hd hz hP hD hS => W.zret (v := r0) B.exec B.bytes B.returns hz (fun t ht hW => ⟨⟨r0, (), rfl, rfl, by rw [ht]; exact hP, hD⟩, hS.F ht⟩) hS.2.2 hd)

def bdX5_who_4 (F : Nat) (x1_ : Int32) (m_now : Nat → Int32) (r_ : Int32 → Int32 → Option (Int32)) (x2_ : Int32) (x3_ : Int32) : Option (Int32) :=
  (if (m_now ((0 : Int32)).toNatClampNeg) ≤ x3_ then (some (x2_)) else sx_c1 (fnX5_knows F m_now x3_ x1_) (fun (r4 : Int32) => sx_lt (fun (y6 : Int32) => sx_nm (x2_ ||| y6) (fun (v7 : Int32) => sx_nm (x3_ + (1 : Int32)) (fun (v8 : Int32) => (r_ v7 v8)))) (fun (k_31 : Int32 → Option (Int32)) => (if r4 = 0 then (k_31 (0 : Int32)) else (k_31 ((1 : Int32) <<< (x3_ &&& 31)))))))
def fnX5_who (F : Nat) (m_now : Nat → Int32) (a1 : Int32) : Option (Int32) :=
  sx_lp2 (bdX5_who_4 F a1 m_now) F (0 : Int32) (0 : Int32)
set_option maxHeartbeats 4000000 in
set_option maxRecDepth 100000 in
theorem kwX5_who {p : Program} {l : Launch} {e : Env} {R : Room} {s : State} {m : MethodId} {args : Array Value} {below : List Frame} {meth : Method} {c : Code} {cells slots : Nat} {Q : State → Prop} {A : Nat → Prop} {H0 : Heap} {D : va_G} {cI cJ cS : ClassId} (hx : p.tables.exec = Jvm.exec) (hb : c.code = cX5_who) (hml : c.maxLocals = 4) (hown : s.vm.findClass RX5 = some m.cls) (hts : ∀ w ∈ wsX5_who, w.before args s = true) (hN : sx_N s) (hK : va_K D vwCl (sx_T cI cJ cS) s) (hA : ∀ q, H0.size ≤ q → A q) (hRf : 2 ≤ R.frames) (hRl : 44 ≤ R.locals) (hRc : cells ≤ R.cells ∧ slots ≤ R.slots) (m_h m_now_a m_tape_a m_read_a m_heard_a m_undone_a m_aside_a m_kept_a m_lanes_a m_sizes_a m_items_a m_moved_a : Nat) (m_now : Nat → Int32) (m_typed : Int32) (m_place : Int32) (m_isFault : Int32) (m_undos : Int32) (m_keptUndos : Int32) (m_isKept : Int32) (a1 : Int32) (F : Nat) (r0 : Int32) (hM : fnX5_who F m_now a1 = some r0) (H : Heap) (locs : List Loc) (ls : Array Slot) (hl : lv_has ls 4 [(0, .ref m_h), (1, .int a1)]) (hP : va_P D vwCl [(m_h, .inr (5, [.ref m_now_a, .ref m_tape_a, .int m_typed, .int m_place, .int m_isFault, .ref m_read_a, .ref m_heard_a, .ref m_undone_a, .int m_undos, .ref m_aside_a, .ref m_kept_a, .int m_keptUndos, .int m_isKept, .ref m_lanes_a, .ref m_sizes_a, .ref m_items_a, .ref m_moved_a])), (m_now_a, .inl (cI, 65, .inl m_now))] H) (hD : va_D A [(m_h, .inr (5, [.ref m_now_a, .ref m_tape_a, .int m_typed, .int m_place, .int m_isFault, .ref m_read_a, .ref m_heard_a, .ref m_undone_a, .int m_undos, .ref m_aside_a, .ref m_kept_a, .int m_keptUndos, .int m_isKept, .ref m_lanes_a, .ref m_sizes_a, .ref m_items_a, .ref m_moved_a])), (m_now_a, .inl (cI, 65, .inl m_now))]) (hS : va_S A H0 H locs)
    (hret : ∀ (H1 : Heap) (locs1 : List Loc) (ls1 : Array Slot) (pc1 : Nat), decode cX5_who pc1 = .ok (.ireturn, 1) → va_P D vwCl [(m_h, .inr (5, [.ref m_now_a, .ref m_tape_a, .int m_typed, .int m_place, .int m_isFault, .ref m_read_a, .ref m_heard_a, .ref m_undone_a, .int m_undos, .ref m_aside_a, .ref m_kept_a, .int m_keptUndos, .int m_isKept, .ref m_lanes_a, .ref m_sizes_a, .ref m_items_a, .ref m_moved_a])), (m_now_a, .inl (cI, 65, .inl m_now))] H1 → va_D A [(m_h, .inr (5, [.ref m_now_a, .ref m_tape_a, .int m_typed, .int m_place, .int m_isFault, .ref m_read_a, .ref m_heard_a, .ref m_undone_a, .int m_undos, .ref m_aside_a, .ref m_kept_a, .int m_keptUndos, .int m_isKept, .ref m_lanes_a, .ref m_sizes_a, .ref m_items_a, .ref m_moved_a])), (m_now_a, .inl (cI, 65, .inl m_now))] → va_S A H0 H1 locs1 → W p l e R s m args below meth c H1 locs1 cells slots Q (F0 m pc1 ls1 [.int r0])) : W p l e R s m args below meth c H locs cells slots Q (F0 m 0 ls []) := by
  have hf_7 := hts (.fieldLink RX5 7 "SealedLipsModel" "now" "[I") (by decide +kernel)
  have hin_X5 : ∀ w ∈ wsX50, w ∈ wsX5_who := by decide +kernel
  unfold fnX5_who at hM
  refine lv_iconst (v := 0) hx hb dX5_who_0 (by decide) ?_
  refine lv_istore_n (lv' := [(2, .int (0 : Int32)), (0, .ref m_h), (1, .int a1)]) hx hb dX5_who_1 rfl hl (by decide) rfl (fun ls hl => ?_)
  refine lv_iconst (v := 0) hx hb dX5_who_2 (by decide) ?_
  refine lv_istore_n (lv' := [(3, .int (0 : Int32)), (2, .int (0 : Int32)), (0, .ref m_h), (1, .int a1)]) hx hb dX5_who_3 rfl hl (by decide) rfl (fun ls hl => ?_)
  have lp_4 : ∀ (n : Nat) (x1 : Int32) (x2 : Int32) (H : Heap) (locs : List Loc) (ls : Array Slot), sx_lp2 (bdX5_who_4 F a1 m_now) n x1 x2 = some r0 → lv_has ls 4 [(0, .ref m_h), (1, .int a1), (2, .int x1), (3, .int x2)] → va_P D vwCl [(m_h, .inr (5, [.ref m_now_a, .ref m_tape_a, .int m_typed, .int m_place, .int m_isFault, .ref m_read_a, .ref m_heard_a, .ref m_undone_a, .int m_undos, .ref m_aside_a, .ref m_kept_a, .int m_keptUndos, .int m_isKept, .ref m_lanes_a, .ref m_sizes_a, .ref m_items_a, .ref m_moved_a])), (m_now_a, .inl (cI, 65, .inl m_now))] H → va_D A [(m_h, .inr (5, [.ref m_now_a, .ref m_tape_a, .int m_typed, .int m_place, .int m_isFault, .ref m_read_a, .ref m_heard_a, .ref m_undone_a, .int m_undos, .ref m_aside_a, .ref m_kept_a, .int m_keptUndos, .int m_isKept, .ref m_lanes_a, .ref m_sizes_a, .ref m_items_a, .ref m_moved_a])), (m_now_a, .inl (cI, 65, .inl m_now))] → va_S A H0 H locs → W p l e R s m args below meth c H locs cells slots Q (F0 m 4 ls ([])) := by
    intro n
    induction n with
    | zero => intro x1 x2 H locs ls hM; exact (sx_lp2_0 hM).elim
    | succ n ih =>
      intro x1 x2 H locs ls hM hl hP hD hS
      have hM : bdX5_who_4 F a1 m_now (sx_lp2 (bdX5_who_4 F a1 m_now) n) x1 x2 = some r0 := hM
      generalize sx_lp2 (bdX5_who_4 F a1 m_now) n = r_4 at hM ih
      unfold bdX5_who_4 at hM
      refine lv_iload_n hx hb dX5_who_4 rfl (lv_at hl 3 rfl) ?_
      refine lv_aload_n hx hb dX5_who_5 rfl (lv_at hl 0 rfl) ?_
      refine va_get (D := D) (ci := 5) (v := .ref m_now_a) (C := RX5) (T := TX5) (N := 17) hx hb hts hin_X5 hown hK hP 0 rfl rfl 0 (by decide) hf_7 (fun _ h9 => h9) rfl dX5_who_6 ?_
      refine lv_iconst (v := 0) hx hb dX5_who_9 (by decide) ?_
      refine va_iald hx hb hK hP 1 0 rfl rfl (sx_ib_s (by decide)) dX5_who_10 ?_
      refine lv_icmp_ge (tgt := 39) hx hb dX5_who_11 (by decide) (fun c3 => ?_) (fun c3 => ?_)
      · replace hM := sx_ift c3 hM
        refine lv_iload_n hx hb dX5_who_39 rfl (lv_at hl 2 rfl) ?_
        obtain rfl := sx_o1 hM
        exact hret _ _ _ _ dX5_who_40 (hP.sub [0, 1] rfl) (hD.sub [0, 1] (by decide) rfl) hS
      · replace hM := sx_iff c3 hM
        refine lv_iload_n hx hb dX5_who_14 rfl (lv_at hl 2 rfl) ?_
        refine lv_aload_n hx hb dX5_who_15 rfl (lv_at hl 0 rfl) ?_
        refine lv_iload_n hx hb dX5_who_16 rfl (lv_at hl 3 rfl) ?_
        refine lv_iload_n hx hb dX5_who_17 rfl (lv_at hl 1 rfl) ?_
        obtain ⟨r4, hc5, hM⟩ := sx_c1_s hM
        refine sx_iV (As := [.int x2, .int a1]) (rest := [.int x1]) (wc := [(m_h, .inr (5, [.ref m_now_a, .ref m_tape_a, .int m_typed, .int m_place, .int m_isFault, .ref m_read_a, .ref m_heard_a, .ref m_undone_a, .int m_undos, .ref m_aside_a, .ref m_kept_a, .int m_keptUndos, .int m_isKept, .ref m_lanes_a, .ref m_sizes_a, .ref m_items_a, .ref m_moved_a])), (m_now_a, .inl (cI, 65, .inl m_now))]) (wr := []) (w1 := [(m_h, .inr (5, [.ref m_now_a, .ref m_tape_a, .int m_typed, .int m_place, .int m_isFault, .ref m_read_a, .ref m_heard_a, .ref m_undone_a, .int m_undos, .ref m_aside_a, .ref m_kept_a, .int m_keptUndos, .int m_isKept, .ref m_lanes_a, .ref m_sizes_a, .ref m_items_a, .ref m_moved_a])), (m_now_a, .inl (cI, 65, .inl m_now))]) ⟨hx, hb, hml, hown, hts⟩ (mtX5_knows l D cI cJ cS H.size m_h m_now_a m_tape_a m_read_a m_heard_a m_undone_a m_aside_a m_kept_a m_lanes_a m_sizes_a m_items_a m_moved_a m_now m_typed m_place m_isFault m_undos m_keptUndos m_isKept x2 a1 F r4 hc5) (cwV 2 hts gX5_who_X5_knows rfl rfl rfl (by decide +kernel) ⟨Nat.le_trans (by decide) hRf, Nat.le_trans (by decide) hRl⟩) hK hN hP hD hS hA [0, 1] [] rfl (by decide) rfl (by decide) (by decide) rfl rfl rfl rfl hl.1 rfl (Nat.le_of_ble_eq_true rfl) dX5_who_18 hRc (fun H locs hP hD hS => ?_)
        have hP : va_P D vwCl [(m_h, .inr (5, [.ref m_now_a, .ref m_tape_a, .int m_typed, .int m_place, .int m_isFault, .ref m_read_a, .ref m_heard_a, .ref m_undone_a, .int m_undos, .ref m_aside_a, .ref m_kept_a, .int m_keptUndos, .int m_isKept, .ref m_lanes_a, .ref m_sizes_a, .ref m_items_a, .ref m_moved_a])), (m_now_a, .inl (cI, 65, .inl m_now))] H := hP
        have hD : va_D A [(m_h, .inr (5, [.ref m_now_a, .ref m_tape_a, .int m_typed, .int m_place, .int m_isFault, .ref m_read_a, .ref m_heard_a, .ref m_undone_a, .int m_undos, .ref m_aside_a, .ref m_kept_a, .int m_keptUndos, .int m_isKept, .ref m_lanes_a, .ref m_sizes_a, .ref m_items_a, .ref m_moved_a])), (m_now_a, .inl (cI, 65, .inl m_now))] := hD
        obtain ⟨k_31, ek_31, hM⟩ := sx_lt_s hM
        have hk_31 : ∀ (y6 : Int32) (H : Heap) (locs : List Loc) (ls : Array Slot), k_31 y6 = some r0 → lv_has ls 4 [(0, .ref m_h), (1, .int a1), (3, .int x2)] → va_P D vwCl [(m_h, .inr (5, [.ref m_now_a, .ref m_tape_a, .int m_typed, .int m_place, .int m_isFault, .ref m_read_a, .ref m_heard_a, .ref m_undone_a, .int m_undos, .ref m_aside_a, .ref m_kept_a, .int m_keptUndos, .int m_isKept, .ref m_lanes_a, .ref m_sizes_a, .ref m_items_a, .ref m_moved_a])), (m_now_a, .inl (cI, 65, .inl m_now))] H → va_D A [(m_h, .inr (5, [.ref m_now_a, .ref m_tape_a, .int m_typed, .int m_place, .int m_isFault, .ref m_read_a, .ref m_heard_a, .ref m_undone_a, .int m_undos, .ref m_aside_a, .ref m_kept_a, .int m_keptUndos, .int m_isKept, .ref m_lanes_a, .ref m_sizes_a, .ref m_items_a, .ref m_moved_a])), (m_now_a, .inl (cI, 65, .inl m_now))] → va_S A H0 H locs → W p l e R s m args below meth c H locs cells slots Q (F0 m 31 ls (.int y6 :: .int x1 :: [])) := by
          intro y6 H locs ls hM hl hP hD hS
          rw [ek_31] at hM
          refine lv_ior hx hb dX5_who_31 ?_
          obtain ⟨v7, ev7, hM⟩ := sx_nm_s hM
          refine W.eq (g2 := F0 m 32 ls (.int v7 :: [])) (by subst ev7; rfl) ?_
          refine lv_istore_n (lv' := [(2, .int v7), (0, .ref m_h), (1, .int a1), (3, .int x2)]) hx hb dX5_who_32 rfl hl (by decide) rfl (fun ls hl => ?_)
          obtain ⟨v8, ev8, hM⟩ := sx_nm_s hM
          refine lv_iinc (v := v8) (lv' := [(3, .int v8), (2, .int v7), (0, .ref m_h), (1, .int a1)]) hx hb dX5_who_33 hl (k := 3) rfl (by rw [ev8]; rfl) (by decide) rfl (fun ls hl => ?_)
          refine lv_goto (tgt := 4) hx hb dX5_who_36 (by decide) ?_
          exact ih v7 v8 _ _ _ hM (lv_sub hl [2, 3, 1, 0] rfl) (hP.sub [0, 1] rfl) (hD.sub [0, 1] (by decide) rfl) hS
        refine lv_if_eq (tgt := 30) hx hb dX5_who_21 (by decide) (fun c9 => ?_) (fun c9 => ?_)
        · replace hM := sx_ift c9 hM
          refine lv_iconst (v := 0) hx hb dX5_who_30 (by decide) ?_
          exact hk_31 (0 : Int32) _ _ _ hM (lv_sub hl [0, 1, 3] rfl) (hP.sub [0, 1] rfl) (hD.sub [0, 1] (by decide) rfl) hS
        · replace hM := sx_iff c9 hM
          refine lv_iconst (v := 1) hx hb dX5_who_24 (by decide) ?_
          refine lv_iload_n hx hb dX5_who_25 rfl (lv_at hl 3 rfl) ?_
          refine lv_ishl hx hb dX5_who_26 ?_
          refine lv_goto (tgt := 31) hx hb dX5_who_27 (by decide) ?_
          exact hk_31 ((1 : Int32) <<< (x2 &&& 31)) _ _ _ hM (lv_sub hl [0, 1, 3] rfl) (hP.sub [0, 1] rfl) (hD.sub [0, 1] (by decide) rfl) hS
  exact lp_4 F (0 : Int32) (0 : Int32) _ _ _ hM (lv_sub hl [2, 3, 1, 0] rfl) (hP.sub [0, 1] rfl) (hD.sub [0, 1] (by decide) rfl) hS
set_option maxHeartbeats 4000000 in
set_option maxRecDepth 100000 in
theorem mtX5_who (l : Launch) (D : va_G) (cI cJ cS : ClassId) (sz : Nat) (m_h m_now_a m_tape_a m_read_a m_heard_a m_undone_a m_aside_a m_kept_a m_lanes_a m_sizes_a m_items_a m_moved_a : Nat) (m_now : Nat → Int32) (m_typed : Int32) (m_place : Int32) (m_isFault : Int32) (m_undos : Int32) (m_keptUndos : Int32) (m_isKept : Int32) (a1 : Int32) (F : Nat) (r0 : Int32) (hM : fnX5_who F m_now a1 = some r0) : sx_MI l yX5_who wsX5_who ({ frames := 2, cells := 0, slots := 0, locals := 44 }) D (sx_T cI cJ cS) sz [.ref m_h, .int a1] [(m_h, .inr (5, [.ref m_now_a, .ref m_tape_a, .int m_typed, .int m_place, .int m_isFault, .ref m_read_a, .ref m_heard_a, .ref m_undone_a, .int m_undos, .ref m_aside_a, .ref m_kept_a, .int m_keptUndos, .int m_isKept, .ref m_lanes_a, .ref m_sizes_a, .ref m_items_a, .ref m_moved_a])), (m_now_a, .inl (cI, 65, .inl m_now))] r0 [(m_h, .inr (5, [.ref m_now_a, .ref m_tape_a, .int m_typed, .int m_place, .int m_isFault, .ref m_read_a, .ref m_heard_a, .ref m_undone_a, .int m_undos, .ref m_aside_a, .ref m_kept_a, .int m_keptUndos, .int m_isKept, .ref m_lanes_a, .ref m_sizes_a, .ref m_items_a, .ref m_moved_a])), (m_now_a, .inl (cI, 65, .inl m_now))] := by
  refine Met.ofW (cc := cX5_who) (maxL := 4) (ret := (some .int)) (by decide) rfl ?_
  intro p e s m args below meth c s₁ B hml hv
  obtain ⟨rfl, hsz, hN, hP, hK, hD0⟩ := hv
  subst hsz
  have hl := lv_entry ([.ref m_h, .int a1]) (n := 4) (Nat.le_of_ble_eq_true rfl)
  rw [lg_entry_eq]
  generalize (lg_sl ([.ref m_h, .int a1]) ++ List.replicate (4 - (lg_sl ([.ref m_h, .int a1])).length) Slot.unset).toArray = ls at hl ⊢
  exact kwX5_who B.exec B.bytes hml (findClass_of_methodNamed B.named) (atoms_spec (ws := wsX5_who) B.pre) hN hK (fun q h => Or.inr h) (by decide) (by decide) ⟨Nat.zero_le _, Nat.zero_le _⟩ m_h m_now_a m_tape_a m_read_a m_heard_a m_undone_a m_aside_a m_kept_a m_lanes_a m_sizes_a m_items_a m_moved_a m_now m_typed m_place m_isFault m_undos m_keptUndos m_isKept a1 F r0 hM _ _ _ hl hP hD0.self va_S.rf (fun H1 locs1 ls1 pc1 hd hP hD hS => W.iret (v := r0) B.exec B.bytes B.returns (fun t ht hW => ⟨⟨r0, (), rfl, rfl, by rw [ht]; exact hP, hD⟩, hS.F ht⟩) hS.2.2 hd)

def bdX5_rank_4 (F : Nat) (x1_ : Int32) (m_now : Nat → Int32) (r_ : Int32 → Int32 → Option (Int32)) (x2_ : Int32) (x3_ : Int32) : Option (Int32) :=
  (if (8 : Int32) ≤ x3_ then (some (x2_)) else sx_c1 (fnX5_sealOf F m_now x1_ x3_) (fun (r4 : Int32) => sx_lt (fun (y6 : Int32) => sx_nm (x2_ + y6) (fun (v7 : Int32) => sx_nm (x3_ + (1 : Int32)) (fun (v8 : Int32) => (r_ v7 v8)))) (fun (k_25 : Int32 → Option (Int32)) => (if r4 ≤ 0 then (k_25 (0 : Int32)) else (k_25 (1 : Int32))))))
def fnX5_rank (F : Nat) (m_now : Nat → Int32) (a1 : Int32) : Option (Int32) :=
  sx_lp2 (bdX5_rank_4 F a1 m_now) F (0 : Int32) (0 : Int32)
set_option maxHeartbeats 4000000 in
set_option maxRecDepth 100000 in
theorem kwX5_rank {p : Program} {l : Launch} {e : Env} {R : Room} {s : State} {m : MethodId} {args : Array Value} {below : List Frame} {meth : Method} {c : Code} {cells slots : Nat} {Q : State → Prop} {A : Nat → Prop} {H0 : Heap} {D : va_G} {cI cJ cS : ClassId} (hx : p.tables.exec = Jvm.exec) (hb : c.code = cX5_rank) (hml : c.maxLocals = 4) (hown : s.vm.findClass RX5 = some m.cls) (hts : ∀ w ∈ wsX5_rank, w.before args s = true) (hN : sx_N s) (hK : va_K D vwCl (sx_T cI cJ cS) s) (hA : ∀ q, H0.size ≤ q → A q) (hRf : 1 ≤ R.frames) (hRl : 22 ≤ R.locals) (hRc : cells ≤ R.cells ∧ slots ≤ R.slots) (m_h m_now_a m_tape_a m_read_a m_heard_a m_undone_a m_aside_a m_kept_a m_lanes_a m_sizes_a m_items_a m_moved_a : Nat) (m_now : Nat → Int32) (m_typed : Int32) (m_place : Int32) (m_isFault : Int32) (m_undos : Int32) (m_keptUndos : Int32) (m_isKept : Int32) (a1 : Int32) (F : Nat) (r0 : Int32) (hM : fnX5_rank F m_now a1 = some r0) (H : Heap) (locs : List Loc) (ls : Array Slot) (hl : lv_has ls 4 [(0, .ref m_h), (1, .int a1)]) (hP : va_P D vwCl [(m_h, .inr (5, [.ref m_now_a, .ref m_tape_a, .int m_typed, .int m_place, .int m_isFault, .ref m_read_a, .ref m_heard_a, .ref m_undone_a, .int m_undos, .ref m_aside_a, .ref m_kept_a, .int m_keptUndos, .int m_isKept, .ref m_lanes_a, .ref m_sizes_a, .ref m_items_a, .ref m_moved_a])), (m_now_a, .inl (cI, 65, .inl m_now))] H) (hD : va_D A [(m_h, .inr (5, [.ref m_now_a, .ref m_tape_a, .int m_typed, .int m_place, .int m_isFault, .ref m_read_a, .ref m_heard_a, .ref m_undone_a, .int m_undos, .ref m_aside_a, .ref m_kept_a, .int m_keptUndos, .int m_isKept, .ref m_lanes_a, .ref m_sizes_a, .ref m_items_a, .ref m_moved_a])), (m_now_a, .inl (cI, 65, .inl m_now))]) (hS : va_S A H0 H locs)
    (hret : ∀ (H1 : Heap) (locs1 : List Loc) (ls1 : Array Slot) (pc1 : Nat), decode cX5_rank pc1 = .ok (.ireturn, 1) → va_P D vwCl [(m_h, .inr (5, [.ref m_now_a, .ref m_tape_a, .int m_typed, .int m_place, .int m_isFault, .ref m_read_a, .ref m_heard_a, .ref m_undone_a, .int m_undos, .ref m_aside_a, .ref m_kept_a, .int m_keptUndos, .int m_isKept, .ref m_lanes_a, .ref m_sizes_a, .ref m_items_a, .ref m_moved_a])), (m_now_a, .inl (cI, 65, .inl m_now))] H1 → va_D A [(m_h, .inr (5, [.ref m_now_a, .ref m_tape_a, .int m_typed, .int m_place, .int m_isFault, .ref m_read_a, .ref m_heard_a, .ref m_undone_a, .int m_undos, .ref m_aside_a, .ref m_kept_a, .int m_keptUndos, .int m_isKept, .ref m_lanes_a, .ref m_sizes_a, .ref m_items_a, .ref m_moved_a])), (m_now_a, .inl (cI, 65, .inl m_now))] → va_S A H0 H1 locs1 → W p l e R s m args below meth c H1 locs1 cells slots Q (F0 m pc1 ls1 [.int r0])) : W p l e R s m args below meth c H locs cells slots Q (F0 m 0 ls []) := by
  unfold fnX5_rank at hM
  refine lv_iconst (v := 0) hx hb dX5_rank_0 (by decide) ?_
  refine lv_istore_n (lv' := [(2, .int (0 : Int32)), (0, .ref m_h), (1, .int a1)]) hx hb dX5_rank_1 rfl hl (by decide) rfl (fun ls hl => ?_)
  refine lv_iconst (v := 0) hx hb dX5_rank_2 (by decide) ?_
  refine lv_istore_n (lv' := [(3, .int (0 : Int32)), (2, .int (0 : Int32)), (0, .ref m_h), (1, .int a1)]) hx hb dX5_rank_3 rfl hl (by decide) rfl (fun ls hl => ?_)
  have lp_4 : ∀ (n : Nat) (x1 : Int32) (x2 : Int32) (H : Heap) (locs : List Loc) (ls : Array Slot), sx_lp2 (bdX5_rank_4 F a1 m_now) n x1 x2 = some r0 → lv_has ls 4 [(0, .ref m_h), (1, .int a1), (2, .int x1), (3, .int x2)] → va_P D vwCl [(m_h, .inr (5, [.ref m_now_a, .ref m_tape_a, .int m_typed, .int m_place, .int m_isFault, .ref m_read_a, .ref m_heard_a, .ref m_undone_a, .int m_undos, .ref m_aside_a, .ref m_kept_a, .int m_keptUndos, .int m_isKept, .ref m_lanes_a, .ref m_sizes_a, .ref m_items_a, .ref m_moved_a])), (m_now_a, .inl (cI, 65, .inl m_now))] H → va_D A [(m_h, .inr (5, [.ref m_now_a, .ref m_tape_a, .int m_typed, .int m_place, .int m_isFault, .ref m_read_a, .ref m_heard_a, .ref m_undone_a, .int m_undos, .ref m_aside_a, .ref m_kept_a, .int m_keptUndos, .int m_isKept, .ref m_lanes_a, .ref m_sizes_a, .ref m_items_a, .ref m_moved_a])), (m_now_a, .inl (cI, 65, .inl m_now))] → va_S A H0 H locs → W p l e R s m args below meth c H locs cells slots Q (F0 m 4 ls ([])) := by
    intro n
    induction n with
    | zero => intro x1 x2 H locs ls hM; exact (sx_lp2_0 hM).elim
    | succ n ih =>
      intro x1 x2 H locs ls hM hl hP hD hS
      have hM : bdX5_rank_4 F a1 m_now (sx_lp2 (bdX5_rank_4 F a1 m_now) n) x1 x2 = some r0 := hM
      generalize sx_lp2 (bdX5_rank_4 F a1 m_now) n = r_4 at hM ih
      unfold bdX5_rank_4 at hM
      refine lv_iload_n hx hb dX5_rank_4 rfl (lv_at hl 3 rfl) ?_
      refine lv_bipush (v := 8) hx hb dX5_rank_5 (by decide) ?_
      refine lv_icmp_ge (tgt := 33) hx hb dX5_rank_7 (by decide) (fun c3 => ?_) (fun c3 => ?_)
      · replace hM := sx_ift c3 hM
        refine lv_iload_n hx hb dX5_rank_33 rfl (lv_at hl 2 rfl) ?_
        obtain rfl := sx_o1 hM
        exact hret _ _ _ _ dX5_rank_34 (hP.sub [0, 1] rfl) (hD.sub [0, 1] (by decide) rfl) hS
      · replace hM := sx_iff c3 hM
        refine lv_iload_n hx hb dX5_rank_10 rfl (lv_at hl 2 rfl) ?_
        refine lv_aload_n hx hb dX5_rank_11 rfl (lv_at hl 0 rfl) ?_
        refine lv_iload_n hx hb dX5_rank_12 rfl (lv_at hl 1 rfl) ?_
        refine lv_iload_n hx hb dX5_rank_13 rfl (lv_at hl 3 rfl) ?_
        obtain ⟨r4, hc5, hM⟩ := sx_c1_s hM
        refine sx_iV (As := [.int a1, .int x2]) (rest := [.int x1]) (wc := [(m_h, .inr (5, [.ref m_now_a, .ref m_tape_a, .int m_typed, .int m_place, .int m_isFault, .ref m_read_a, .ref m_heard_a, .ref m_undone_a, .int m_undos, .ref m_aside_a, .ref m_kept_a, .int m_keptUndos, .int m_isKept, .ref m_lanes_a, .ref m_sizes_a, .ref m_items_a, .ref m_moved_a])), (m_now_a, .inl (cI, 65, .inl m_now))]) (wr := []) (w1 := [(m_h, .inr (5, [.ref m_now_a, .ref m_tape_a, .int m_typed, .int m_place, .int m_isFault, .ref m_read_a, .ref m_heard_a, .ref m_undone_a, .int m_undos, .ref m_aside_a, .ref m_kept_a, .int m_keptUndos, .int m_isKept, .ref m_lanes_a, .ref m_sizes_a, .ref m_items_a, .ref m_moved_a])), (m_now_a, .inl (cI, 65, .inl m_now))]) ⟨hx, hb, hml, hown, hts⟩ (mtX5_sealOf l D cI cJ cS H.size m_h m_now_a m_tape_a m_read_a m_heard_a m_undone_a m_aside_a m_kept_a m_lanes_a m_sizes_a m_items_a m_moved_a m_now m_typed m_place m_isFault m_undos m_keptUndos m_isKept a1 x2 F r4 hc5) (cwV 2 hts gX5_rank_X5_sealOf rfl rfl rfl (by decide +kernel) ⟨Nat.le_trans (by decide) hRf, Nat.le_trans (by decide) hRl⟩) hK hN hP hD hS hA [0, 1] [] rfl (by decide) rfl (by decide) (by decide) rfl rfl rfl rfl hl.1 rfl (Nat.le_of_ble_eq_true rfl) dX5_rank_14 hRc (fun H locs hP hD hS => ?_)
        have hP : va_P D vwCl [(m_h, .inr (5, [.ref m_now_a, .ref m_tape_a, .int m_typed, .int m_place, .int m_isFault, .ref m_read_a, .ref m_heard_a, .ref m_undone_a, .int m_undos, .ref m_aside_a, .ref m_kept_a, .int m_keptUndos, .int m_isKept, .ref m_lanes_a, .ref m_sizes_a, .ref m_items_a, .ref m_moved_a])), (m_now_a, .inl (cI, 65, .inl m_now))] H := hP
        have hD : va_D A [(m_h, .inr (5, [.ref m_now_a, .ref m_tape_a, .int m_typed, .int m_place, .int m_isFault, .ref m_read_a, .ref m_heard_a, .ref m_undone_a, .int m_undos, .ref m_aside_a, .ref m_kept_a, .int m_keptUndos, .int m_isKept, .ref m_lanes_a, .ref m_sizes_a, .ref m_items_a, .ref m_moved_a])), (m_now_a, .inl (cI, 65, .inl m_now))] := hD
        obtain ⟨k_25, ek_25, hM⟩ := sx_lt_s hM
        have hk_25 : ∀ (y6 : Int32) (H : Heap) (locs : List Loc) (ls : Array Slot), k_25 y6 = some r0 → lv_has ls 4 [(0, .ref m_h), (1, .int a1), (3, .int x2)] → va_P D vwCl [(m_h, .inr (5, [.ref m_now_a, .ref m_tape_a, .int m_typed, .int m_place, .int m_isFault, .ref m_read_a, .ref m_heard_a, .ref m_undone_a, .int m_undos, .ref m_aside_a, .ref m_kept_a, .int m_keptUndos, .int m_isKept, .ref m_lanes_a, .ref m_sizes_a, .ref m_items_a, .ref m_moved_a])), (m_now_a, .inl (cI, 65, .inl m_now))] H → va_D A [(m_h, .inr (5, [.ref m_now_a, .ref m_tape_a, .int m_typed, .int m_place, .int m_isFault, .ref m_read_a, .ref m_heard_a, .ref m_undone_a, .int m_undos, .ref m_aside_a, .ref m_kept_a, .int m_keptUndos, .int m_isKept, .ref m_lanes_a, .ref m_sizes_a, .ref m_items_a, .ref m_moved_a])), (m_now_a, .inl (cI, 65, .inl m_now))] → va_S A H0 H locs → W p l e R s m args below meth c H locs cells slots Q (F0 m 25 ls (.int y6 :: .int x1 :: [])) := by
          intro y6 H locs ls hM hl hP hD hS
          rw [ek_25] at hM
          refine lv_iadd hx hb dX5_rank_25 ?_
          obtain ⟨v7, ev7, hM⟩ := sx_nm_s hM
          refine W.eq (g2 := F0 m 26 ls (.int v7 :: [])) (by subst ev7; rfl) ?_
          refine lv_istore_n (lv' := [(2, .int v7), (0, .ref m_h), (1, .int a1), (3, .int x2)]) hx hb dX5_rank_26 rfl hl (by decide) rfl (fun ls hl => ?_)
          obtain ⟨v8, ev8, hM⟩ := sx_nm_s hM
          refine lv_iinc (v := v8) (lv' := [(3, .int v8), (2, .int v7), (0, .ref m_h), (1, .int a1)]) hx hb dX5_rank_27 hl (k := 3) rfl (by rw [ev8]; rfl) (by decide) rfl (fun ls hl => ?_)
          refine lv_goto (tgt := 4) hx hb dX5_rank_30 (by decide) ?_
          exact ih v7 v8 _ _ _ hM (lv_sub hl [2, 3, 1, 0] rfl) (hP.sub [0, 1] rfl) (hD.sub [0, 1] (by decide) rfl) hS
        refine lv_if_le (tgt := 24) hx hb dX5_rank_17 (by decide) (fun c9 => ?_) (fun c9 => ?_)
        · replace hM := sx_ift c9 hM
          refine lv_iconst (v := 0) hx hb dX5_rank_24 (by decide) ?_
          exact hk_25 (0 : Int32) _ _ _ hM (lv_sub hl [0, 1, 3] rfl) (hP.sub [0, 1] rfl) (hD.sub [0, 1] (by decide) rfl) hS
        · replace hM := sx_iff c9 hM
          refine lv_iconst (v := 1) hx hb dX5_rank_20 (by decide) ?_
          refine lv_goto (tgt := 25) hx hb dX5_rank_21 (by decide) ?_
          exact hk_25 (1 : Int32) _ _ _ hM (lv_sub hl [0, 1, 3] rfl) (hP.sub [0, 1] rfl) (hD.sub [0, 1] (by decide) rfl) hS
  exact lp_4 F (0 : Int32) (0 : Int32) _ _ _ hM (lv_sub hl [2, 3, 1, 0] rfl) (hP.sub [0, 1] rfl) (hD.sub [0, 1] (by decide) rfl) hS
set_option maxHeartbeats 4000000 in
set_option maxRecDepth 100000 in
theorem mtX5_rank (l : Launch) (D : va_G) (cI cJ cS : ClassId) (sz : Nat) (m_h m_now_a m_tape_a m_read_a m_heard_a m_undone_a m_aside_a m_kept_a m_lanes_a m_sizes_a m_items_a m_moved_a : Nat) (m_now : Nat → Int32) (m_typed : Int32) (m_place : Int32) (m_isFault : Int32) (m_undos : Int32) (m_keptUndos : Int32) (m_isKept : Int32) (a1 : Int32) (F : Nat) (r0 : Int32) (hM : fnX5_rank F m_now a1 = some r0) : sx_MI l yX5_rank wsX5_rank ({ frames := 1, cells := 0, slots := 0, locals := 22 }) D (sx_T cI cJ cS) sz [.ref m_h, .int a1] [(m_h, .inr (5, [.ref m_now_a, .ref m_tape_a, .int m_typed, .int m_place, .int m_isFault, .ref m_read_a, .ref m_heard_a, .ref m_undone_a, .int m_undos, .ref m_aside_a, .ref m_kept_a, .int m_keptUndos, .int m_isKept, .ref m_lanes_a, .ref m_sizes_a, .ref m_items_a, .ref m_moved_a])), (m_now_a, .inl (cI, 65, .inl m_now))] r0 [(m_h, .inr (5, [.ref m_now_a, .ref m_tape_a, .int m_typed, .int m_place, .int m_isFault, .ref m_read_a, .ref m_heard_a, .ref m_undone_a, .int m_undos, .ref m_aside_a, .ref m_kept_a, .int m_keptUndos, .int m_isKept, .ref m_lanes_a, .ref m_sizes_a, .ref m_items_a, .ref m_moved_a])), (m_now_a, .inl (cI, 65, .inl m_now))] := by
  refine Met.ofW (cc := cX5_rank) (maxL := 4) (ret := (some .int)) (by decide) rfl ?_
  intro p e s m args below meth c s₁ B hml hv
  obtain ⟨rfl, hsz, hN, hP, hK, hD0⟩ := hv
  subst hsz
  have hl := lv_entry ([.ref m_h, .int a1]) (n := 4) (Nat.le_of_ble_eq_true rfl)
  rw [lg_entry_eq]
  generalize (lg_sl ([.ref m_h, .int a1]) ++ List.replicate (4 - (lg_sl ([.ref m_h, .int a1])).length) Slot.unset).toArray = ls at hl ⊢
  exact kwX5_rank B.exec B.bytes hml (findClass_of_methodNamed B.named) (atoms_spec (ws := wsX5_rank) B.pre) hN hK (fun q h => Or.inr h) (by decide) (by decide) ⟨Nat.zero_le _, Nat.zero_le _⟩ m_h m_now_a m_tape_a m_read_a m_heard_a m_undone_a m_aside_a m_kept_a m_lanes_a m_sizes_a m_items_a m_moved_a m_now m_typed m_place m_isFault m_undos m_keptUndos m_isKept a1 F r0 hM _ _ _ hl hP hD0.self va_S.rf (fun H1 locs1 ls1 pc1 hd hP hD hS => W.iret (v := r0) B.exec B.bytes B.returns (fun t ht hW => ⟨⟨r0, (), rfl, rfl, by rw [ht]; exact hP, hD⟩, hS.F ht⟩) hS.2.2 hd)

def bdX5_things_5 (F : Nat) (x1_ : Int32) (x2_ : Int32) (m_now : Nat → Int32) (r_ : Int32 → Int32 → Option (Int32)) (x3_ : Int32) (x4_ : Int32) : Option (Int32) :=
  (if (8 : Int32) ≤ x4_ then (some (x3_)) else sx_lt (fun (y4 : Int32) => sx_nm (x3_ ||| y4) (fun (v5 : Int32) => sx_nm (x4_ + (1 : Int32)) (fun (v6 : Int32) => (r_ v5 v6)))) (fun (k_56 : Int32 → Option (Int32)) => (if x2_ = 0 then sx_c1 (fnX5_knows F m_now x1_ x4_) (fun (r8 : Int32) => (if r8 = 0 then (k_56 (0 : Int32)) else (k_56 ((1 : Int32) <<< (x4_ &&& 31))))) else sx_c1 (fnX5_sealOf F m_now x1_ x4_) (fun (r11 : Int32) => (if r11 = 0 then (k_56 ((1 : Int32) <<< (x4_ &&& 31))) else (k_56 (0 : Int32)))))))
def fnX5_things (F : Nat) (m_now : Nat → Int32) (a1 : Int32) (a2 : Int32) : Option (Int32) :=
  sx_lp2 (bdX5_things_5 F a1 a2 m_now) F (0 : Int32) (0 : Int32)
set_option maxHeartbeats 4000000 in
set_option maxRecDepth 100000 in
theorem kwX5_things {p : Program} {l : Launch} {e : Env} {R : Room} {s : State} {m : MethodId} {args : Array Value} {below : List Frame} {meth : Method} {c : Code} {cells slots : Nat} {Q : State → Prop} {A : Nat → Prop} {H0 : Heap} {D : va_G} {cI cJ cS : ClassId} (hx : p.tables.exec = Jvm.exec) (hb : c.code = cX5_things) (hml : c.maxLocals = 5) (hown : s.vm.findClass RX5 = some m.cls) (hts : ∀ w ∈ wsX5_things, w.before args s = true) (hN : sx_N s) (hK : va_K D vwCl (sx_T cI cJ cS) s) (hA : ∀ q, H0.size ≤ q → A q) (hRf : 2 ≤ R.frames) (hRl : 44 ≤ R.locals) (hRc : cells ≤ R.cells ∧ slots ≤ R.slots) (m_h m_now_a m_tape_a m_read_a m_heard_a m_undone_a m_aside_a m_kept_a m_lanes_a m_sizes_a m_items_a m_moved_a : Nat) (m_now : Nat → Int32) (m_typed : Int32) (m_place : Int32) (m_isFault : Int32) (m_undos : Int32) (m_keptUndos : Int32) (m_isKept : Int32) (a1 : Int32) (a2 : Int32) (F : Nat) (r0 : Int32) (hM : fnX5_things F m_now a1 a2 = some r0) (H : Heap) (locs : List Loc) (ls : Array Slot) (hl : lv_has ls 5 [(0, .ref m_h), (1, .int a1), (2, .int a2)]) (hP : va_P D vwCl [(m_h, .inr (5, [.ref m_now_a, .ref m_tape_a, .int m_typed, .int m_place, .int m_isFault, .ref m_read_a, .ref m_heard_a, .ref m_undone_a, .int m_undos, .ref m_aside_a, .ref m_kept_a, .int m_keptUndos, .int m_isKept, .ref m_lanes_a, .ref m_sizes_a, .ref m_items_a, .ref m_moved_a])), (m_now_a, .inl (cI, 65, .inl m_now))] H) (hD : va_D A [(m_h, .inr (5, [.ref m_now_a, .ref m_tape_a, .int m_typed, .int m_place, .int m_isFault, .ref m_read_a, .ref m_heard_a, .ref m_undone_a, .int m_undos, .ref m_aside_a, .ref m_kept_a, .int m_keptUndos, .int m_isKept, .ref m_lanes_a, .ref m_sizes_a, .ref m_items_a, .ref m_moved_a])), (m_now_a, .inl (cI, 65, .inl m_now))]) (hS : va_S A H0 H locs)
    (hret : ∀ (H1 : Heap) (locs1 : List Loc) (ls1 : Array Slot) (pc1 : Nat), decode cX5_things pc1 = .ok (.ireturn, 1) → va_P D vwCl [(m_h, .inr (5, [.ref m_now_a, .ref m_tape_a, .int m_typed, .int m_place, .int m_isFault, .ref m_read_a, .ref m_heard_a, .ref m_undone_a, .int m_undos, .ref m_aside_a, .ref m_kept_a, .int m_keptUndos, .int m_isKept, .ref m_lanes_a, .ref m_sizes_a, .ref m_items_a, .ref m_moved_a])), (m_now_a, .inl (cI, 65, .inl m_now))] H1 → va_D A [(m_h, .inr (5, [.ref m_now_a, .ref m_tape_a, .int m_typed, .int m_place, .int m_isFault, .ref m_read_a, .ref m_heard_a, .ref m_undone_a, .int m_undos, .ref m_aside_a, .ref m_kept_a, .int m_keptUndos, .int m_isKept, .ref m_lanes_a, .ref m_sizes_a, .ref m_items_a, .ref m_moved_a])), (m_now_a, .inl (cI, 65, .inl m_now))] → va_S A H0 H1 locs1 → W p l e R s m args below meth c H1 locs1 cells slots Q (F0 m pc1 ls1 [.int r0])) : W p l e R s m args below meth c H locs cells slots Q (F0 m 0 ls []) := by
  unfold fnX5_things at hM
  refine lv_iconst (v := 0) hx hb dX5_things_0 (by decide) ?_
  refine lv_istore_n (lv' := [(3, .int (0 : Int32)), (0, .ref m_h), (1, .int a1), (2, .int a2)]) hx hb dX5_things_1 rfl hl (by decide) rfl (fun ls hl => ?_)
  refine lv_iconst (v := 0) hx hb dX5_things_2 (by decide) ?_
  refine lv_istore (lv' := [(4, .int (0 : Int32)), (3, .int (0 : Int32)), (0, .ref m_h), (1, .int a1), (2, .int a2)]) hx hb dX5_things_3 hl (by decide) rfl (fun ls hl => ?_)
  have lp_5 : ∀ (n : Nat) (x1 : Int32) (x2 : Int32) (H : Heap) (locs : List Loc) (ls : Array Slot), sx_lp2 (bdX5_things_5 F a1 a2 m_now) n x1 x2 = some r0 → lv_has ls 5 [(0, .ref m_h), (1, .int a1), (2, .int a2), (3, .int x1), (4, .int x2)] → va_P D vwCl [(m_h, .inr (5, [.ref m_now_a, .ref m_tape_a, .int m_typed, .int m_place, .int m_isFault, .ref m_read_a, .ref m_heard_a, .ref m_undone_a, .int m_undos, .ref m_aside_a, .ref m_kept_a, .int m_keptUndos, .int m_isKept, .ref m_lanes_a, .ref m_sizes_a, .ref m_items_a, .ref m_moved_a])), (m_now_a, .inl (cI, 65, .inl m_now))] H → va_D A [(m_h, .inr (5, [.ref m_now_a, .ref m_tape_a, .int m_typed, .int m_place, .int m_isFault, .ref m_read_a, .ref m_heard_a, .ref m_undone_a, .int m_undos, .ref m_aside_a, .ref m_kept_a, .int m_keptUndos, .int m_isKept, .ref m_lanes_a, .ref m_sizes_a, .ref m_items_a, .ref m_moved_a])), (m_now_a, .inl (cI, 65, .inl m_now))] → va_S A H0 H locs → W p l e R s m args below meth c H locs cells slots Q (F0 m 5 ls ([])) := by
    intro n
    induction n with
    | zero => intro x1 x2 H locs ls hM; exact (sx_lp2_0 hM).elim
    | succ n ih =>
      intro x1 x2 H locs ls hM hl hP hD hS
      have hM : bdX5_things_5 F a1 a2 m_now (sx_lp2 (bdX5_things_5 F a1 a2 m_now) n) x1 x2 = some r0 := hM
      generalize sx_lp2 (bdX5_things_5 F a1 a2 m_now) n = r_5 at hM ih
      unfold bdX5_things_5 at hM
      refine lv_iload hx hb dX5_things_5 (lv_at hl 4 rfl) ?_
      refine lv_bipush (v := 8) hx hb dX5_things_7 (by decide) ?_
      refine lv_icmp_ge (tgt := 64) hx hb dX5_things_9 (by decide) (fun c3 => ?_) (fun c3 => ?_)
      · replace hM := sx_ift c3 hM
        refine lv_iload_n hx hb dX5_things_64 rfl (lv_at hl 3 rfl) ?_
        obtain rfl := sx_o1 hM
        exact hret _ _ _ _ dX5_things_65 (hP.sub [0, 1] rfl) (hD.sub [0, 1] (by decide) rfl) hS
      · replace hM := sx_iff c3 hM
        refine lv_iload_n hx hb dX5_things_12 rfl (lv_at hl 3 rfl) ?_
        refine lv_iload_n hx hb dX5_things_13 rfl (lv_at hl 2 rfl) ?_
        obtain ⟨k_56, ek_56, hM⟩ := sx_lt_s hM
        have hk_56 : ∀ (y4 : Int32) (H : Heap) (locs : List Loc) (ls : Array Slot), k_56 y4 = some r0 → lv_has ls 5 [(0, .ref m_h), (1, .int a1), (2, .int a2), (4, .int x2)] → va_P D vwCl [(m_h, .inr (5, [.ref m_now_a, .ref m_tape_a, .int m_typed, .int m_place, .int m_isFault, .ref m_read_a, .ref m_heard_a, .ref m_undone_a, .int m_undos, .ref m_aside_a, .ref m_kept_a, .int m_keptUndos, .int m_isKept, .ref m_lanes_a, .ref m_sizes_a, .ref m_items_a, .ref m_moved_a])), (m_now_a, .inl (cI, 65, .inl m_now))] H → va_D A [(m_h, .inr (5, [.ref m_now_a, .ref m_tape_a, .int m_typed, .int m_place, .int m_isFault, .ref m_read_a, .ref m_heard_a, .ref m_undone_a, .int m_undos, .ref m_aside_a, .ref m_kept_a, .int m_keptUndos, .int m_isKept, .ref m_lanes_a, .ref m_sizes_a, .ref m_items_a, .ref m_moved_a])), (m_now_a, .inl (cI, 65, .inl m_now))] → va_S A H0 H locs → W p l e R s m args below meth c H locs cells slots Q (F0 m 56 ls (.int y4 :: .int x1 :: [])) := by
          intro y4 H locs ls hM hl hP hD hS
          rw [ek_56] at hM
          refine lv_ior hx hb dX5_things_56 ?_
          obtain ⟨v5, ev5, hM⟩ := sx_nm_s hM
          refine W.eq (g2 := F0 m 57 ls (.int v5 :: [])) (by subst ev5; rfl) ?_
          refine lv_istore_n (lv' := [(3, .int v5), (0, .ref m_h), (1, .int a1), (2, .int a2), (4, .int x2)]) hx hb dX5_things_57 rfl hl (by decide) rfl (fun ls hl => ?_)
          obtain ⟨v6, ev6, hM⟩ := sx_nm_s hM
          refine lv_iinc (v := v6) (lv' := [(4, .int v6), (3, .int v5), (0, .ref m_h), (1, .int a1), (2, .int a2)]) hx hb dX5_things_58 hl (k := 4) rfl (by rw [ev6]; rfl) (by decide) rfl (fun ls hl => ?_)
          refine lv_goto (tgt := 5) hx hb dX5_things_61 (by decide) ?_
          exact ih v5 v6 _ _ _ hM (lv_sub hl [2, 3, 4, 1, 0] rfl) (hP.sub [0, 1] rfl) (hD.sub [0, 1] (by decide) rfl) hS
        refine lv_if_eq (tgt := 38) hx hb dX5_things_14 (by decide) (fun c7 => ?_) (fun c7 => ?_)
        · replace hM := sx_ift c7 hM
          refine lv_aload_n hx hb dX5_things_38 rfl (lv_at hl 0 rfl) ?_
          refine lv_iload_n hx hb dX5_things_39 rfl (lv_at hl 1 rfl) ?_
          refine lv_iload hx hb dX5_things_40 (lv_at hl 4 rfl) ?_
          obtain ⟨r8, hc9, hM⟩ := sx_c1_s hM
          refine sx_iV (As := [.int a1, .int x2]) (rest := [.int x1]) (wc := [(m_h, .inr (5, [.ref m_now_a, .ref m_tape_a, .int m_typed, .int m_place, .int m_isFault, .ref m_read_a, .ref m_heard_a, .ref m_undone_a, .int m_undos, .ref m_aside_a, .ref m_kept_a, .int m_keptUndos, .int m_isKept, .ref m_lanes_a, .ref m_sizes_a, .ref m_items_a, .ref m_moved_a])), (m_now_a, .inl (cI, 65, .inl m_now))]) (wr := []) (w1 := [(m_h, .inr (5, [.ref m_now_a, .ref m_tape_a, .int m_typed, .int m_place, .int m_isFault, .ref m_read_a, .ref m_heard_a, .ref m_undone_a, .int m_undos, .ref m_aside_a, .ref m_kept_a, .int m_keptUndos, .int m_isKept, .ref m_lanes_a, .ref m_sizes_a, .ref m_items_a, .ref m_moved_a])), (m_now_a, .inl (cI, 65, .inl m_now))]) ⟨hx, hb, hml, hown, hts⟩ (mtX5_knows l D cI cJ cS H.size m_h m_now_a m_tape_a m_read_a m_heard_a m_undone_a m_aside_a m_kept_a m_lanes_a m_sizes_a m_items_a m_moved_a m_now m_typed m_place m_isFault m_undos m_keptUndos m_isKept a1 x2 F r8 hc9) (cwV 2 hts gX5_things_X5_knows rfl rfl rfl (by decide +kernel) ⟨Nat.le_trans (by decide) hRf, Nat.le_trans (by decide) hRl⟩) hK hN hP hD hS hA [0, 1] [] rfl (by decide) rfl (by decide) (by decide) rfl rfl rfl rfl hl.1 rfl (Nat.le_of_ble_eq_true rfl) dX5_things_42 hRc (fun H locs hP hD hS => ?_)
          have hP : va_P D vwCl [(m_h, .inr (5, [.ref m_now_a, .ref m_tape_a, .int m_typed, .int m_place, .int m_isFault, .ref m_read_a, .ref m_heard_a, .ref m_undone_a, .int m_undos, .ref m_aside_a, .ref m_kept_a, .int m_keptUndos, .int m_isKept, .ref m_lanes_a, .ref m_sizes_a, .ref m_items_a, .ref m_moved_a])), (m_now_a, .inl (cI, 65, .inl m_now))] H := hP
          have hD : va_D A [(m_h, .inr (5, [.ref m_now_a, .ref m_tape_a, .int m_typed, .int m_place, .int m_isFault, .ref m_read_a, .ref m_heard_a, .ref m_undone_a, .int m_undos, .ref m_aside_a, .ref m_kept_a, .int m_keptUndos, .int m_isKept, .ref m_lanes_a, .ref m_sizes_a, .ref m_items_a, .ref m_moved_a])), (m_now_a, .inl (cI, 65, .inl m_now))] := hD
          refine lv_if_eq (tgt := 55) hx hb dX5_things_45 (by decide) (fun c10 => ?_) (fun c10 => ?_)
          · replace hM := sx_ift c10 hM
            refine lv_iconst (v := 0) hx hb dX5_things_55 (by decide) ?_
            exact hk_56 (0 : Int32) _ _ _ hM (lv_sub hl [0, 1, 2, 4] rfl) (hP.sub [0, 1] rfl) (hD.sub [0, 1] (by decide) rfl) hS
          · replace hM := sx_iff c10 hM
            refine lv_iconst (v := 1) hx hb dX5_things_48 (by decide) ?_
            refine lv_iload hx hb dX5_things_49 (lv_at hl 4 rfl) ?_
            refine lv_ishl hx hb dX5_things_51 ?_
            refine lv_goto (tgt := 56) hx hb dX5_things_52 (by decide) ?_
            exact hk_56 ((1 : Int32) <<< (x2 &&& 31)) _ _ _ hM (lv_sub hl [0, 1, 2, 4] rfl) (hP.sub [0, 1] rfl) (hD.sub [0, 1] (by decide) rfl) hS
        · replace hM := sx_iff c7 hM
          refine lv_aload_n hx hb dX5_things_17 rfl (lv_at hl 0 rfl) ?_
          refine lv_iload_n hx hb dX5_things_18 rfl (lv_at hl 1 rfl) ?_
          refine lv_iload hx hb dX5_things_19 (lv_at hl 4 rfl) ?_
          obtain ⟨r11, hc12, hM⟩ := sx_c1_s hM
          refine sx_iV (As := [.int a1, .int x2]) (rest := [.int x1]) (wc := [(m_h, .inr (5, [.ref m_now_a, .ref m_tape_a, .int m_typed, .int m_place, .int m_isFault, .ref m_read_a, .ref m_heard_a, .ref m_undone_a, .int m_undos, .ref m_aside_a, .ref m_kept_a, .int m_keptUndos, .int m_isKept, .ref m_lanes_a, .ref m_sizes_a, .ref m_items_a, .ref m_moved_a])), (m_now_a, .inl (cI, 65, .inl m_now))]) (wr := []) (w1 := [(m_h, .inr (5, [.ref m_now_a, .ref m_tape_a, .int m_typed, .int m_place, .int m_isFault, .ref m_read_a, .ref m_heard_a, .ref m_undone_a, .int m_undos, .ref m_aside_a, .ref m_kept_a, .int m_keptUndos, .int m_isKept, .ref m_lanes_a, .ref m_sizes_a, .ref m_items_a, .ref m_moved_a])), (m_now_a, .inl (cI, 65, .inl m_now))]) ⟨hx, hb, hml, hown, hts⟩ (mtX5_sealOf l D cI cJ cS H.size m_h m_now_a m_tape_a m_read_a m_heard_a m_undone_a m_aside_a m_kept_a m_lanes_a m_sizes_a m_items_a m_moved_a m_now m_typed m_place m_isFault m_undos m_keptUndos m_isKept a1 x2 F r11 hc12) (cwV 2 hts gX5_things_X5_sealOf rfl rfl rfl (by decide +kernel) ⟨Nat.le_trans (by decide) hRf, Nat.le_trans (by decide) hRl⟩) hK hN hP hD hS hA [0, 1] [] rfl (by decide) rfl (by decide) (by decide) rfl rfl rfl rfl hl.1 rfl (Nat.le_of_ble_eq_true rfl) dX5_things_21 hRc (fun H locs hP hD hS => ?_)
          have hP : va_P D vwCl [(m_h, .inr (5, [.ref m_now_a, .ref m_tape_a, .int m_typed, .int m_place, .int m_isFault, .ref m_read_a, .ref m_heard_a, .ref m_undone_a, .int m_undos, .ref m_aside_a, .ref m_kept_a, .int m_keptUndos, .int m_isKept, .ref m_lanes_a, .ref m_sizes_a, .ref m_items_a, .ref m_moved_a])), (m_now_a, .inl (cI, 65, .inl m_now))] H := hP
          have hD : va_D A [(m_h, .inr (5, [.ref m_now_a, .ref m_tape_a, .int m_typed, .int m_place, .int m_isFault, .ref m_read_a, .ref m_heard_a, .ref m_undone_a, .int m_undos, .ref m_aside_a, .ref m_kept_a, .int m_keptUndos, .int m_isKept, .ref m_lanes_a, .ref m_sizes_a, .ref m_items_a, .ref m_moved_a])), (m_now_a, .inl (cI, 65, .inl m_now))] := hD
          refine lv_if_ne (tgt := 34) hx hb dX5_things_24 (by decide) (fun c13 => ?_) (fun c13 => ?_)
          · replace hM := sx_iff c13 hM
            refine lv_iconst (v := 0) hx hb dX5_things_34 (by decide) ?_
            refine lv_goto (tgt := 56) hx hb dX5_things_35 (by decide) ?_
            exact hk_56 (0 : Int32) _ _ _ hM (lv_sub hl [0, 1, 2, 4] rfl) (hP.sub [0, 1] rfl) (hD.sub [0, 1] (by decide) rfl) hS
          · replace hM := sx_ift c13 hM
            refine lv_iconst (v := 1) hx hb dX5_things_27 (by decide) ?_
            refine lv_iload hx hb dX5_things_28 (lv_at hl 4 rfl) ?_
            refine lv_ishl hx hb dX5_things_30 ?_
            refine lv_goto (tgt := 56) hx hb dX5_things_31 (by decide) ?_
            exact hk_56 ((1 : Int32) <<< (x2 &&& 31)) _ _ _ hM (lv_sub hl [0, 1, 2, 4] rfl) (hP.sub [0, 1] rfl) (hD.sub [0, 1] (by decide) rfl) hS
  exact lp_5 F (0 : Int32) (0 : Int32) _ _ _ hM (lv_sub hl [2, 3, 4, 1, 0] rfl) (hP.sub [0, 1] rfl) (hD.sub [0, 1] (by decide) rfl) hS
set_option maxHeartbeats 4000000 in
set_option maxRecDepth 100000 in
theorem mtX5_things (l : Launch) (D : va_G) (cI cJ cS : ClassId) (sz : Nat) (m_h m_now_a m_tape_a m_read_a m_heard_a m_undone_a m_aside_a m_kept_a m_lanes_a m_sizes_a m_items_a m_moved_a : Nat) (m_now : Nat → Int32) (m_typed : Int32) (m_place : Int32) (m_isFault : Int32) (m_undos : Int32) (m_keptUndos : Int32) (m_isKept : Int32) (a1 : Int32) (a2 : Int32) (F : Nat) (r0 : Int32) (hM : fnX5_things F m_now a1 a2 = some r0) : sx_MI l yX5_things wsX5_things ({ frames := 2, cells := 0, slots := 0, locals := 44 }) D (sx_T cI cJ cS) sz [.ref m_h, .int a1, .int a2] [(m_h, .inr (5, [.ref m_now_a, .ref m_tape_a, .int m_typed, .int m_place, .int m_isFault, .ref m_read_a, .ref m_heard_a, .ref m_undone_a, .int m_undos, .ref m_aside_a, .ref m_kept_a, .int m_keptUndos, .int m_isKept, .ref m_lanes_a, .ref m_sizes_a, .ref m_items_a, .ref m_moved_a])), (m_now_a, .inl (cI, 65, .inl m_now))] r0 [(m_h, .inr (5, [.ref m_now_a, .ref m_tape_a, .int m_typed, .int m_place, .int m_isFault, .ref m_read_a, .ref m_heard_a, .ref m_undone_a, .int m_undos, .ref m_aside_a, .ref m_kept_a, .int m_keptUndos, .int m_isKept, .ref m_lanes_a, .ref m_sizes_a, .ref m_items_a, .ref m_moved_a])), (m_now_a, .inl (cI, 65, .inl m_now))] := by
  refine Met.ofW (cc := cX5_things) (maxL := 5) (ret := (some .int)) (by decide) rfl ?_
  intro p e s m args below meth c s₁ B hml hv
  obtain ⟨rfl, hsz, hN, hP, hK, hD0⟩ := hv
  subst hsz
  have hl := lv_entry ([.ref m_h, .int a1, .int a2]) (n := 5) (Nat.le_of_ble_eq_true rfl)
  rw [lg_entry_eq]
  generalize (lg_sl ([.ref m_h, .int a1, .int a2]) ++ List.replicate (5 - (lg_sl ([.ref m_h, .int a1, .int a2])).length) Slot.unset).toArray = ls at hl ⊢
  exact kwX5_things B.exec B.bytes hml (findClass_of_methodNamed B.named) (atoms_spec (ws := wsX5_things) B.pre) hN hK (fun q h => Or.inr h) (by decide) (by decide) ⟨Nat.zero_le _, Nat.zero_le _⟩ m_h m_now_a m_tape_a m_read_a m_heard_a m_undone_a m_aside_a m_kept_a m_lanes_a m_sizes_a m_items_a m_moved_a m_now m_typed m_place m_isFault m_undos m_keptUndos m_isKept a1 a2 F r0 hM _ _ _ hl hP hD0.self va_S.rf (fun H1 locs1 ls1 pc1 hd hP hD hS => W.iret (v := r0) B.exec B.bytes B.returns (fun t ht hW => ⟨⟨r0, (), rfl, rfl, by rw [ht]; exact hP, hD⟩, hS.F ht⟩) hS.2.2 hd)

def bdX5_placeOf_2 (F : Nat) (x1_ : Int32) (m_now : Nat → Int32) (r_ : Int32 → Option (Int32)) (x2_ : Int32) : Option (Int32) :=
  sx_gd (sx_ib ((11 : Int32) + x2_) 65) ((if (m_now (((11 : Int32) + x2_)).toNatClampNeg) = x1_ then (some (x2_)) else sx_nm (x2_ + (1 : Int32)) (fun (v4 : Int32) => (r_ v4))))
def fnX5_placeOf (F : Nat) (m_now : Nat → Int32) (a1 : Int32) : Option (Int32) :=
  sx_lp1 (bdX5_placeOf_2 F a1 m_now) F (0 : Int32)
set_option maxHeartbeats 4000000 in
set_option maxRecDepth 100000 in
theorem kwX5_placeOf {p : Program} {l : Launch} {e : Env} {R : Room} {s : State} {m : MethodId} {args : Array Value} {below : List Frame} {meth : Method} {c : Code} {cells slots : Nat} {Q : State → Prop} {A : Nat → Prop} {H0 : Heap} {D : va_G} {cI cJ cS : ClassId} (hx : p.tables.exec = Jvm.exec) (hb : c.code = cX5_placeOf) (hml : c.maxLocals = 3) (hown : s.vm.findClass RX5 = some m.cls) (hts : ∀ w ∈ wsX5_placeOf, w.before args s = true) (hN : sx_N s) (hK : va_K D vwCl (sx_T cI cJ cS) s) (hA : ∀ q, H0.size ≤ q → A q) (hRf : 0 ≤ R.frames) (hRl : 0 ≤ R.locals) (hRc : cells ≤ R.cells ∧ slots ≤ R.slots) (m_h m_now_a m_tape_a m_read_a m_heard_a m_undone_a m_aside_a m_kept_a m_lanes_a m_sizes_a m_items_a m_moved_a : Nat) (m_now : Nat → Int32) (m_typed : Int32) (m_place : Int32) (m_isFault : Int32) (m_undos : Int32) (m_keptUndos : Int32) (m_isKept : Int32) (a1 : Int32) (F : Nat) (r0 : Int32) (hM : fnX5_placeOf F m_now a1 = some r0) (H : Heap) (locs : List Loc) (ls : Array Slot) (hl : lv_has ls 3 [(0, .ref m_h), (1, .int a1)]) (hP : va_P D vwCl [(m_h, .inr (5, [.ref m_now_a, .ref m_tape_a, .int m_typed, .int m_place, .int m_isFault, .ref m_read_a, .ref m_heard_a, .ref m_undone_a, .int m_undos, .ref m_aside_a, .ref m_kept_a, .int m_keptUndos, .int m_isKept, .ref m_lanes_a, .ref m_sizes_a, .ref m_items_a, .ref m_moved_a])), (m_now_a, .inl (cI, 65, .inl m_now))] H) (hD : va_D A [(m_h, .inr (5, [.ref m_now_a, .ref m_tape_a, .int m_typed, .int m_place, .int m_isFault, .ref m_read_a, .ref m_heard_a, .ref m_undone_a, .int m_undos, .ref m_aside_a, .ref m_kept_a, .int m_keptUndos, .int m_isKept, .ref m_lanes_a, .ref m_sizes_a, .ref m_items_a, .ref m_moved_a])), (m_now_a, .inl (cI, 65, .inl m_now))]) (hS : va_S A H0 H locs)
    (hret : ∀ (H1 : Heap) (locs1 : List Loc) (ls1 : Array Slot) (pc1 : Nat), decode cX5_placeOf pc1 = .ok (.ireturn, 1) → va_P D vwCl [(m_h, .inr (5, [.ref m_now_a, .ref m_tape_a, .int m_typed, .int m_place, .int m_isFault, .ref m_read_a, .ref m_heard_a, .ref m_undone_a, .int m_undos, .ref m_aside_a, .ref m_kept_a, .int m_keptUndos, .int m_isKept, .ref m_lanes_a, .ref m_sizes_a, .ref m_items_a, .ref m_moved_a])), (m_now_a, .inl (cI, 65, .inl m_now))] H1 → va_D A [(m_h, .inr (5, [.ref m_now_a, .ref m_tape_a, .int m_typed, .int m_place, .int m_isFault, .ref m_read_a, .ref m_heard_a, .ref m_undone_a, .int m_undos, .ref m_aside_a, .ref m_kept_a, .int m_keptUndos, .int m_isKept, .ref m_lanes_a, .ref m_sizes_a, .ref m_items_a, .ref m_moved_a])), (m_now_a, .inl (cI, 65, .inl m_now))] → va_S A H0 H1 locs1 → W p l e R s m args below meth c H1 locs1 cells slots Q (F0 m pc1 ls1 [.int r0])) : W p l e R s m args below meth c H locs cells slots Q (F0 m 0 ls []) := by
  have hf_7 := hts (.fieldLink RX5 7 "SealedLipsModel" "now" "[I") (by decide +kernel)
  have hin_X5 : ∀ w ∈ wsX50, w ∈ wsX5_placeOf := by decide +kernel
  unfold fnX5_placeOf at hM
  refine lv_iconst (v := 0) hx hb dX5_placeOf_0 (by decide) ?_
  refine lv_istore_n (lv' := [(2, .int (0 : Int32)), (0, .ref m_h), (1, .int a1)]) hx hb dX5_placeOf_1 rfl hl (by decide) rfl (fun ls hl => ?_)
  have lp_2 : ∀ (n : Nat) (x1 : Int32) (H : Heap) (locs : List Loc) (ls : Array Slot), sx_lp1 (bdX5_placeOf_2 F a1 m_now) n x1 = some r0 → lv_has ls 3 [(0, .ref m_h), (1, .int a1), (2, .int x1)] → va_P D vwCl [(m_h, .inr (5, [.ref m_now_a, .ref m_tape_a, .int m_typed, .int m_place, .int m_isFault, .ref m_read_a, .ref m_heard_a, .ref m_undone_a, .int m_undos, .ref m_aside_a, .ref m_kept_a, .int m_keptUndos, .int m_isKept, .ref m_lanes_a, .ref m_sizes_a, .ref m_items_a, .ref m_moved_a])), (m_now_a, .inl (cI, 65, .inl m_now))] H → va_D A [(m_h, .inr (5, [.ref m_now_a, .ref m_tape_a, .int m_typed, .int m_place, .int m_isFault, .ref m_read_a, .ref m_heard_a, .ref m_undone_a, .int m_undos, .ref m_aside_a, .ref m_kept_a, .int m_keptUndos, .int m_isKept, .ref m_lanes_a, .ref m_sizes_a, .ref m_items_a, .ref m_moved_a])), (m_now_a, .inl (cI, 65, .inl m_now))] → va_S A H0 H locs → W p l e R s m args below meth c H locs cells slots Q (F0 m 2 ls ([])) := by
    intro n
    induction n with
    | zero => intro x1 H locs ls hM; exact (sx_lp1_0 hM).elim
    | succ n ih =>
      intro x1 H locs ls hM hl hP hD hS
      have hM : bdX5_placeOf_2 F a1 m_now (sx_lp1 (bdX5_placeOf_2 F a1 m_now) n) x1 = some r0 := hM
      generalize sx_lp1 (bdX5_placeOf_2 F a1 m_now) n = r_2 at hM ih
      unfold bdX5_placeOf_2 at hM
      refine lv_aload_n hx hb dX5_placeOf_2 rfl (lv_at hl 0 rfl) ?_
      refine va_get (D := D) (ci := 5) (v := .ref m_now_a) (C := RX5) (T := TX5) (N := 17) hx hb hts hin_X5 hown hK hP 0 rfl rfl 0 (by decide) hf_7 (fun _ h9 => h9) rfl dX5_placeOf_3 ?_
      refine lv_bipush (v := 11) hx hb dX5_placeOf_6 (by decide) ?_
      refine lv_iload_n hx hb dX5_placeOf_8 rfl (lv_at hl 2 rfl) ?_
      refine lv_iadd hx hb dX5_placeOf_9 ?_
      obtain ⟨g2, hM⟩ := sx_gd_s hM
      refine va_iald hx hb hK hP 1 0 rfl rfl (sx_ib_s g2) dX5_placeOf_10 ?_
      refine lv_iload_n hx hb dX5_placeOf_11 rfl (lv_at hl 1 rfl) ?_
      refine lv_icmp_eq (tgt := 21) hx hb dX5_placeOf_12 (by decide) (fun c3 => ?_) (fun c3 => ?_)
      · replace hM := sx_ift c3 hM
        refine lv_iload_n hx hb dX5_placeOf_21 rfl (lv_at hl 2 rfl) ?_
        obtain rfl := sx_o1 hM
        exact hret _ _ _ _ dX5_placeOf_22 (hP.sub [0, 1] rfl) (hD.sub [0, 1] (by decide) rfl) hS
      · replace hM := sx_iff c3 hM
        obtain ⟨v4, ev4, hM⟩ := sx_nm_s hM
        refine lv_iinc (v := v4) (lv' := [(2, .int v4), (0, .ref m_h), (1, .int a1)]) hx hb dX5_placeOf_15 hl (k := 2) rfl (by rw [ev4]; rfl) (by decide) rfl (fun ls hl => ?_)
        refine lv_goto (tgt := 2) hx hb dX5_placeOf_18 (by decide) ?_
        exact ih v4 _ _ _ hM (lv_sub hl [1, 2, 0] rfl) (hP.sub [0, 1] rfl) (hD.sub [0, 1] (by decide) rfl) hS
  exact lp_2 F (0 : Int32) _ _ _ hM (lv_sub hl [1, 2, 0] rfl) (hP.sub [0, 1] rfl) (hD.sub [0, 1] (by decide) rfl) hS
set_option maxHeartbeats 4000000 in
set_option maxRecDepth 100000 in
theorem mtX5_placeOf (l : Launch) (D : va_G) (cI cJ cS : ClassId) (sz : Nat) (m_h m_now_a m_tape_a m_read_a m_heard_a m_undone_a m_aside_a m_kept_a m_lanes_a m_sizes_a m_items_a m_moved_a : Nat) (m_now : Nat → Int32) (m_typed : Int32) (m_place : Int32) (m_isFault : Int32) (m_undos : Int32) (m_keptUndos : Int32) (m_isKept : Int32) (a1 : Int32) (F : Nat) (r0 : Int32) (hM : fnX5_placeOf F m_now a1 = some r0) : sx_MI l yX5_placeOf wsX5_placeOf ({ frames := 0, cells := 0, slots := 0, locals := 0 }) D (sx_T cI cJ cS) sz [.ref m_h, .int a1] [(m_h, .inr (5, [.ref m_now_a, .ref m_tape_a, .int m_typed, .int m_place, .int m_isFault, .ref m_read_a, .ref m_heard_a, .ref m_undone_a, .int m_undos, .ref m_aside_a, .ref m_kept_a, .int m_keptUndos, .int m_isKept, .ref m_lanes_a, .ref m_sizes_a, .ref m_items_a, .ref m_moved_a])), (m_now_a, .inl (cI, 65, .inl m_now))] r0 [(m_h, .inr (5, [.ref m_now_a, .ref m_tape_a, .int m_typed, .int m_place, .int m_isFault, .ref m_read_a, .ref m_heard_a, .ref m_undone_a, .int m_undos, .ref m_aside_a, .ref m_kept_a, .int m_keptUndos, .int m_isKept, .ref m_lanes_a, .ref m_sizes_a, .ref m_items_a, .ref m_moved_a])), (m_now_a, .inl (cI, 65, .inl m_now))] := by
  refine Met.ofW (cc := cX5_placeOf) (maxL := 3) (ret := (some .int)) (by decide) rfl ?_
  intro p e s m args below meth c s₁ B hml hv
  obtain ⟨rfl, hsz, hN, hP, hK, hD0⟩ := hv
  subst hsz
  have hl := lv_entry ([.ref m_h, .int a1]) (n := 3) (Nat.le_of_ble_eq_true rfl)
  rw [lg_entry_eq]
  generalize (lg_sl ([.ref m_h, .int a1]) ++ List.replicate (3 - (lg_sl ([.ref m_h, .int a1])).length) Slot.unset).toArray = ls at hl ⊢
  exact kwX5_placeOf B.exec B.bytes hml (findClass_of_methodNamed B.named) (atoms_spec (ws := wsX5_placeOf) B.pre) hN hK (fun q h => Or.inr h) (by decide) (by decide) ⟨Nat.zero_le _, Nat.zero_le _⟩ m_h m_now_a m_tape_a m_read_a m_heard_a m_undone_a m_aside_a m_kept_a m_lanes_a m_sizes_a m_items_a m_moved_a m_now m_typed m_place m_isFault m_undos m_keptUndos m_isKept a1 F r0 hM _ _ _ hl hP hD0.self va_S.rf (fun H1 locs1 ls1 pc1 hd hP hD hS => W.iret (v := r0) B.exec B.bytes B.returns (fun t ht hW => ⟨⟨r0, (), rfl, rfl, by rw [ht]; exact hP, hD⟩, hS.F ht⟩) hS.2.2 hd)

def fnX5_beside (F : Nat) (m_now : Nat → Int32) (a1 : Int32) (a2 : Int32) : Option (Int32) :=
  sx_c1 (fnX5_placeOf F m_now a1) (fun (r1 : Int32) => sx_gd (sx_nz (m_now ((0 : Int32)).toNatClampNeg)) (sx_gd (sx_ib ((11 : Int32) + ((r1 + a2) - (r1 + a2) / (m_now ((0 : Int32)).toNatClampNeg) * (m_now ((0 : Int32)).toNatClampNeg))) 65) ((some ((m_now (((11 : Int32) + ((r1 + a2) - (r1 + a2) / (m_now ((0 : Int32)).toNatClampNeg) * (m_now ((0 : Int32)).toNatClampNeg)))).toNatClampNeg))))))
set_option maxHeartbeats 4000000 in
set_option maxRecDepth 100000 in
theorem kwX5_beside {p : Program} {l : Launch} {e : Env} {R : Room} {s : State} {m : MethodId} {args : Array Value} {below : List Frame} {meth : Method} {c : Code} {cells slots : Nat} {Q : State → Prop} {A : Nat → Prop} {H0 : Heap} {D : va_G} {cI cJ cS : ClassId} (hx : p.tables.exec = Jvm.exec) (hb : c.code = cX5_beside) (hml : c.maxLocals = 3) (hown : s.vm.findClass RX5 = some m.cls) (hts : ∀ w ∈ wsX5_beside, w.before args s = true) (hN : sx_N s) (hK : va_K D vwCl (sx_T cI cJ cS) s) (hA : ∀ q, H0.size ≤ q → A q) (hRf : 1 ≤ R.frames) (hRl : 22 ≤ R.locals) (hRc : cells ≤ R.cells ∧ slots ≤ R.slots) (m_h m_now_a m_tape_a m_read_a m_heard_a m_undone_a m_aside_a m_kept_a m_lanes_a m_sizes_a m_items_a m_moved_a : Nat) (m_now : Nat → Int32) (m_typed : Int32) (m_place : Int32) (m_isFault : Int32) (m_undos : Int32) (m_keptUndos : Int32) (m_isKept : Int32) (a1 : Int32) (a2 : Int32) (F : Nat) (r0 : Int32) (hM : fnX5_beside F m_now a1 a2 = some r0) (H : Heap) (locs : List Loc) (ls : Array Slot) (hl : lv_has ls 3 [(0, .ref m_h), (1, .int a1), (2, .int a2)]) (hP : va_P D vwCl [(m_h, .inr (5, [.ref m_now_a, .ref m_tape_a, .int m_typed, .int m_place, .int m_isFault, .ref m_read_a, .ref m_heard_a, .ref m_undone_a, .int m_undos, .ref m_aside_a, .ref m_kept_a, .int m_keptUndos, .int m_isKept, .ref m_lanes_a, .ref m_sizes_a, .ref m_items_a, .ref m_moved_a])), (m_now_a, .inl (cI, 65, .inl m_now))] H) (hD : va_D A [(m_h, .inr (5, [.ref m_now_a, .ref m_tape_a, .int m_typed, .int m_place, .int m_isFault, .ref m_read_a, .ref m_heard_a, .ref m_undone_a, .int m_undos, .ref m_aside_a, .ref m_kept_a, .int m_keptUndos, .int m_isKept, .ref m_lanes_a, .ref m_sizes_a, .ref m_items_a, .ref m_moved_a])), (m_now_a, .inl (cI, 65, .inl m_now))]) (hS : va_S A H0 H locs)
    (hret : ∀ (H1 : Heap) (locs1 : List Loc) (ls1 : Array Slot) (pc1 : Nat), decode cX5_beside pc1 = .ok (.ireturn, 1) → va_P D vwCl [(m_h, .inr (5, [.ref m_now_a, .ref m_tape_a, .int m_typed, .int m_place, .int m_isFault, .ref m_read_a, .ref m_heard_a, .ref m_undone_a, .int m_undos, .ref m_aside_a, .ref m_kept_a, .int m_keptUndos, .int m_isKept, .ref m_lanes_a, .ref m_sizes_a, .ref m_items_a, .ref m_moved_a])), (m_now_a, .inl (cI, 65, .inl m_now))] H1 → va_D A [(m_h, .inr (5, [.ref m_now_a, .ref m_tape_a, .int m_typed, .int m_place, .int m_isFault, .ref m_read_a, .ref m_heard_a, .ref m_undone_a, .int m_undos, .ref m_aside_a, .ref m_kept_a, .int m_keptUndos, .int m_isKept, .ref m_lanes_a, .ref m_sizes_a, .ref m_items_a, .ref m_moved_a])), (m_now_a, .inl (cI, 65, .inl m_now))] → va_S A H0 H1 locs1 → W p l e R s m args below meth c H1 locs1 cells slots Q (F0 m pc1 ls1 [.int r0])) : W p l e R s m args below meth c H locs cells slots Q (F0 m 0 ls []) := by
  have hf_7 := hts (.fieldLink RX5 7 "SealedLipsModel" "now" "[I") (by decide +kernel)
  have hin_X5 : ∀ w ∈ wsX50, w ∈ wsX5_beside := by decide +kernel
  unfold fnX5_beside at hM
  refine lv_aload_n hx hb dX5_beside_0 rfl (lv_at hl 0 rfl) ?_
  refine va_get (D := D) (ci := 5) (v := .ref m_now_a) (C := RX5) (T := TX5) (N := 17) hx hb hts hin_X5 hown hK hP 0 rfl rfl 0 (by decide) hf_7 (fun _ h9 => h9) rfl dX5_beside_1 ?_
  refine lv_bipush (v := 11) hx hb dX5_beside_4 (by decide) ?_
  refine lv_aload_n hx hb dX5_beside_6 rfl (lv_at hl 0 rfl) ?_
  refine lv_iload_n hx hb dX5_beside_7 rfl (lv_at hl 1 rfl) ?_
  obtain ⟨r1, hc2, hM⟩ := sx_c1_s hM
  refine sx_iV (As := [.int a1]) (rest := [.int (11 : Int32), .ref m_now_a]) (wc := [(m_h, .inr (5, [.ref m_now_a, .ref m_tape_a, .int m_typed, .int m_place, .int m_isFault, .ref m_read_a, .ref m_heard_a, .ref m_undone_a, .int m_undos, .ref m_aside_a, .ref m_kept_a, .int m_keptUndos, .int m_isKept, .ref m_lanes_a, .ref m_sizes_a, .ref m_items_a, .ref m_moved_a])), (m_now_a, .inl (cI, 65, .inl m_now))]) (wr := []) (w1 := [(m_h, .inr (5, [.ref m_now_a, .ref m_tape_a, .int m_typed, .int m_place, .int m_isFault, .ref m_read_a, .ref m_heard_a, .ref m_undone_a, .int m_undos, .ref m_aside_a, .ref m_kept_a, .int m_keptUndos, .int m_isKept, .ref m_lanes_a, .ref m_sizes_a, .ref m_items_a, .ref m_moved_a])), (m_now_a, .inl (cI, 65, .inl m_now))]) ⟨hx, hb, hml, hown, hts⟩ (mtX5_placeOf l D cI cJ cS H.size m_h m_now_a m_tape_a m_read_a m_heard_a m_undone_a m_aside_a m_kept_a m_lanes_a m_sizes_a m_items_a m_moved_a m_now m_typed m_place m_isFault m_undos m_keptUndos m_isKept a1 F r1 hc2) (cwV 1 hts gX5_beside_X5_placeOf rfl rfl rfl (by decide +kernel) ⟨Nat.le_trans (by decide) hRf, Nat.le_trans (by decide) hRl⟩) hK hN hP hD hS hA [0, 1] [] rfl (by decide) rfl (by decide) (by decide) rfl rfl rfl rfl hl.1 rfl (Nat.le_of_ble_eq_true rfl) dX5_beside_8 hRc (fun H locs hP hD hS => ?_)
  have hP : va_P D vwCl [(m_h, .inr (5, [.ref m_now_a, .ref m_tape_a, .int m_typed, .int m_place, .int m_isFault, .ref m_read_a, .ref m_heard_a, .ref m_undone_a, .int m_undos, .ref m_aside_a, .ref m_kept_a, .int m_keptUndos, .int m_isKept, .ref m_lanes_a, .ref m_sizes_a, .ref m_items_a, .ref m_moved_a])), (m_now_a, .inl (cI, 65, .inl m_now))] H := hP
  have hD : va_D A [(m_h, .inr (5, [.ref m_now_a, .ref m_tape_a, .int m_typed, .int m_place, .int m_isFault, .ref m_read_a, .ref m_heard_a, .ref m_undone_a, .int m_undos, .ref m_aside_a, .ref m_kept_a, .int m_keptUndos, .int m_isKept, .ref m_lanes_a, .ref m_sizes_a, .ref m_items_a, .ref m_moved_a])), (m_now_a, .inl (cI, 65, .inl m_now))] := hD
  refine lv_iload_n hx hb dX5_beside_11 rfl (lv_at hl 2 rfl) ?_
  refine lv_iadd hx hb dX5_beside_12 ?_
  refine lv_aload_n hx hb dX5_beside_13 rfl (lv_at hl 0 rfl) ?_
  refine va_get (D := D) (ci := 5) (v := .ref m_now_a) (C := RX5) (T := TX5) (N := 17) hx hb hts hin_X5 hown hK hP 0 rfl rfl 0 (by decide) hf_7 (fun _ h9 => h9) rfl dX5_beside_14 ?_
  refine lv_iconst (v := 0) hx hb dX5_beside_17 (by decide) ?_
  refine va_iald hx hb hK hP 1 0 rfl rfl (sx_ib_s (by decide)) dX5_beside_18 ?_
  obtain ⟨g3, hM⟩ := sx_gd_s hM
  refine lv_irem hx hb dX5_beside_19 (sx_nz_s g3) ?_
  refine lv_iadd hx hb dX5_beside_20 ?_
  obtain ⟨g4, hM⟩ := sx_gd_s hM
  refine va_iald hx hb hK hP 1 0 rfl rfl (sx_ib_s g4) dX5_beside_21 ?_
  obtain rfl := sx_o1 hM
  exact hret _ _ _ _ dX5_beside_22 (hP.sub [0, 1] rfl) (hD.sub [0, 1] (by decide) rfl) hS
set_option maxHeartbeats 4000000 in
set_option maxRecDepth 100000 in
theorem mtX5_beside (l : Launch) (D : va_G) (cI cJ cS : ClassId) (sz : Nat) (m_h m_now_a m_tape_a m_read_a m_heard_a m_undone_a m_aside_a m_kept_a m_lanes_a m_sizes_a m_items_a m_moved_a : Nat) (m_now : Nat → Int32) (m_typed : Int32) (m_place : Int32) (m_isFault : Int32) (m_undos : Int32) (m_keptUndos : Int32) (m_isKept : Int32) (a1 : Int32) (a2 : Int32) (F : Nat) (r0 : Int32) (hM : fnX5_beside F m_now a1 a2 = some r0) : sx_MI l yX5_beside wsX5_beside ({ frames := 1, cells := 0, slots := 0, locals := 22 }) D (sx_T cI cJ cS) sz [.ref m_h, .int a1, .int a2] [(m_h, .inr (5, [.ref m_now_a, .ref m_tape_a, .int m_typed, .int m_place, .int m_isFault, .ref m_read_a, .ref m_heard_a, .ref m_undone_a, .int m_undos, .ref m_aside_a, .ref m_kept_a, .int m_keptUndos, .int m_isKept, .ref m_lanes_a, .ref m_sizes_a, .ref m_items_a, .ref m_moved_a])), (m_now_a, .inl (cI, 65, .inl m_now))] r0 [(m_h, .inr (5, [.ref m_now_a, .ref m_tape_a, .int m_typed, .int m_place, .int m_isFault, .ref m_read_a, .ref m_heard_a, .ref m_undone_a, .int m_undos, .ref m_aside_a, .ref m_kept_a, .int m_keptUndos, .int m_isKept, .ref m_lanes_a, .ref m_sizes_a, .ref m_items_a, .ref m_moved_a])), (m_now_a, .inl (cI, 65, .inl m_now))] := by
  refine Met.ofW (cc := cX5_beside) (maxL := 3) (ret := (some .int)) (by decide) rfl ?_
  intro p e s m args below meth c s₁ B hml hv
  obtain ⟨rfl, hsz, hN, hP, hK, hD0⟩ := hv
  subst hsz
  have hl := lv_entry ([.ref m_h, .int a1, .int a2]) (n := 3) (Nat.le_of_ble_eq_true rfl)
  rw [lg_entry_eq]
  generalize (lg_sl ([.ref m_h, .int a1, .int a2]) ++ List.replicate (3 - (lg_sl ([.ref m_h, .int a1, .int a2])).length) Slot.unset).toArray = ls at hl ⊢
  exact kwX5_beside B.exec B.bytes hml (findClass_of_methodNamed B.named) (atoms_spec (ws := wsX5_beside) B.pre) hN hK (fun q h => Or.inr h) (by decide) (by decide) ⟨Nat.zero_le _, Nat.zero_le _⟩ m_h m_now_a m_tape_a m_read_a m_heard_a m_undone_a m_aside_a m_kept_a m_lanes_a m_sizes_a m_items_a m_moved_a m_now m_typed m_place m_isFault m_undos m_keptUndos m_isKept a1 a2 F r0 hM _ _ _ hl hP hD0.self va_S.rf (fun H1 locs1 ls1 pc1 hd hP hD hS => W.iret (v := r0) B.exec B.bytes B.returns (fun t ht hW => ⟨⟨r0, (), rfl, rfl, by rw [ht]; exact hP, hD⟩, hS.F ht⟩) hS.2.2 hd)

def bdX5_times_16 (F : Nat) (x2_ : Int32) (m_now : Nat → Int32) (kf_45 : Int32 → Option (Int32)) (r_ : Int32 → Int32 → Option (Int32)) (x1_ : Int32) (x3_ : Int32) : Option (Int32) :=
  (if (8 : Int32) ≤ x3_ then (kf_45 x1_) else sx_c1 (fnX5_knows F m_now x2_ x3_) (fun (r9 : Int32) => sx_lt (fun (y11 : Int32) => sx_nm (x1_ + y11) (fun (v12 : Int32) => sx_nm (x3_ + (1 : Int32)) (fun (v13 : Int32) => (r_ v12 v13)))) (fun (k_37 : Int32 → Option (Int32)) => (if r9 = 0 then (k_37 (0 : Int32)) else (k_37 (1 : Int32))))))
def bdX5_times_4 (F : Nat) (m_now : Nat → Int32) (r_ : Int32 → Int32 → Option (Int32)) (x1_ : Int32) (x2_ : Int32) : Option (Int32) :=
  (if (m_now ((0 : Int32)).toNatClampNeg) ≤ x2_ then (some (x1_)) else sx_lt (fun (x4 : Int32) => sx_nm (x2_ + (1 : Int32)) (fun (v5 : Int32) => (r_ x4 v5))) (fun (k_45 : Int32 → Option (Int32)) => sx_lp2 (bdX5_times_16 F x2_ m_now k_45) F x1_ (0 : Int32)))
def fnX5_times (F : Nat) (m_now : Nat → Int32) : Option (Int32) :=
  sx_lp2 (bdX5_times_4 F m_now) F (0 : Int32) (0 : Int32)
set_option maxHeartbeats 4000000 in
set_option maxRecDepth 100000 in
theorem kwX5_times {p : Program} {l : Launch} {e : Env} {R : Room} {s : State} {m : MethodId} {args : Array Value} {below : List Frame} {meth : Method} {c : Code} {cells slots : Nat} {Q : State → Prop} {A : Nat → Prop} {H0 : Heap} {D : va_G} {cI cJ cS : ClassId} (hx : p.tables.exec = Jvm.exec) (hb : c.code = cX5_times) (hml : c.maxLocals = 4) (hown : s.vm.findClass RX5 = some m.cls) (hts : ∀ w ∈ wsX5_times, w.before args s = true) (hN : sx_N s) (hK : va_K D vwCl (sx_T cI cJ cS) s) (hA : ∀ q, H0.size ≤ q → A q) (hRf : 2 ≤ R.frames) (hRl : 44 ≤ R.locals) (hRc : cells ≤ R.cells ∧ slots ≤ R.slots) (m_h m_now_a m_tape_a m_read_a m_heard_a m_undone_a m_aside_a m_kept_a m_lanes_a m_sizes_a m_items_a m_moved_a : Nat) (m_now : Nat → Int32) (m_typed : Int32) (m_place : Int32) (m_isFault : Int32) (m_undos : Int32) (m_keptUndos : Int32) (m_isKept : Int32) (F : Nat) (r0 : Int32) (hM : fnX5_times F m_now = some r0) (H : Heap) (locs : List Loc) (ls : Array Slot) (hl : lv_has ls 4 [(0, .ref m_h)]) (hP : va_P D vwCl [(m_h, .inr (5, [.ref m_now_a, .ref m_tape_a, .int m_typed, .int m_place, .int m_isFault, .ref m_read_a, .ref m_heard_a, .ref m_undone_a, .int m_undos, .ref m_aside_a, .ref m_kept_a, .int m_keptUndos, .int m_isKept, .ref m_lanes_a, .ref m_sizes_a, .ref m_items_a, .ref m_moved_a])), (m_now_a, .inl (cI, 65, .inl m_now))] H) (hD : va_D A [(m_h, .inr (5, [.ref m_now_a, .ref m_tape_a, .int m_typed, .int m_place, .int m_isFault, .ref m_read_a, .ref m_heard_a, .ref m_undone_a, .int m_undos, .ref m_aside_a, .ref m_kept_a, .int m_keptUndos, .int m_isKept, .ref m_lanes_a, .ref m_sizes_a, .ref m_items_a, .ref m_moved_a])), (m_now_a, .inl (cI, 65, .inl m_now))]) (hS : va_S A H0 H locs)
    (hret : ∀ (H1 : Heap) (locs1 : List Loc) (ls1 : Array Slot) (pc1 : Nat), decode cX5_times pc1 = .ok (.ireturn, 1) → va_P D vwCl [(m_h, .inr (5, [.ref m_now_a, .ref m_tape_a, .int m_typed, .int m_place, .int m_isFault, .ref m_read_a, .ref m_heard_a, .ref m_undone_a, .int m_undos, .ref m_aside_a, .ref m_kept_a, .int m_keptUndos, .int m_isKept, .ref m_lanes_a, .ref m_sizes_a, .ref m_items_a, .ref m_moved_a])), (m_now_a, .inl (cI, 65, .inl m_now))] H1 → va_D A [(m_h, .inr (5, [.ref m_now_a, .ref m_tape_a, .int m_typed, .int m_place, .int m_isFault, .ref m_read_a, .ref m_heard_a, .ref m_undone_a, .int m_undos, .ref m_aside_a, .ref m_kept_a, .int m_keptUndos, .int m_isKept, .ref m_lanes_a, .ref m_sizes_a, .ref m_items_a, .ref m_moved_a])), (m_now_a, .inl (cI, 65, .inl m_now))] → va_S A H0 H1 locs1 → W p l e R s m args below meth c H1 locs1 cells slots Q (F0 m pc1 ls1 [.int r0])) : W p l e R s m args below meth c H locs cells slots Q (F0 m 0 ls []) := by
  have hf_7 := hts (.fieldLink RX5 7 "SealedLipsModel" "now" "[I") (by decide +kernel)
  have hin_X5 : ∀ w ∈ wsX50, w ∈ wsX5_times := by decide +kernel
  unfold fnX5_times at hM
  refine lv_iconst (v := 0) hx hb dX5_times_0 (by decide) ?_
  refine lv_istore_n (lv' := [(1, .int (0 : Int32)), (0, .ref m_h)]) hx hb dX5_times_1 rfl hl (by decide) rfl (fun ls hl => ?_)
  refine lv_iconst (v := 0) hx hb dX5_times_2 (by decide) ?_
  refine lv_istore_n (lv' := [(2, .int (0 : Int32)), (1, .int (0 : Int32)), (0, .ref m_h)]) hx hb dX5_times_3 rfl hl (by decide) rfl (fun ls hl => ?_)
  have lp_4 : ∀ (n : Nat) (x1 : Int32) (x2 : Int32) (H : Heap) (locs : List Loc) (ls : Array Slot), sx_lp2 (bdX5_times_4 F m_now) n x1 x2 = some r0 → lv_has ls 4 [(0, .ref m_h), (1, .int x1), (2, .int x2)] → va_P D vwCl [(m_h, .inr (5, [.ref m_now_a, .ref m_tape_a, .int m_typed, .int m_place, .int m_isFault, .ref m_read_a, .ref m_heard_a, .ref m_undone_a, .int m_undos, .ref m_aside_a, .ref m_kept_a, .int m_keptUndos, .int m_isKept, .ref m_lanes_a, .ref m_sizes_a, .ref m_items_a, .ref m_moved_a])), (m_now_a, .inl (cI, 65, .inl m_now))] H → va_D A [(m_h, .inr (5, [.ref m_now_a, .ref m_tape_a, .int m_typed, .int m_place, .int m_isFault, .ref m_read_a, .ref m_heard_a, .ref m_undone_a, .int m_undos, .ref m_aside_a, .ref m_kept_a, .int m_keptUndos, .int m_isKept, .ref m_lanes_a, .ref m_sizes_a, .ref m_items_a, .ref m_moved_a])), (m_now_a, .inl (cI, 65, .inl m_now))] → va_S A H0 H locs → W p l e R s m args below meth c H locs cells slots Q (F0 m 4 ls ([])) := by
    intro n
    induction n with
    | zero => intro x1 x2 H locs ls hM; exact (sx_lp2_0 hM).elim
    | succ n ih =>
      intro x1 x2 H locs ls hM hl hP hD hS
      have hM : bdX5_times_4 F m_now (sx_lp2 (bdX5_times_4 F m_now) n) x1 x2 = some r0 := hM
      generalize sx_lp2 (bdX5_times_4 F m_now) n = r_4 at hM ih
      unfold bdX5_times_4 at hM
      refine lv_iload_n hx hb dX5_times_4 rfl (lv_at hl 2 rfl) ?_
      refine lv_aload_n hx hb dX5_times_5 rfl (lv_at hl 0 rfl) ?_
      refine va_get (D := D) (ci := 5) (v := .ref m_now_a) (C := RX5) (T := TX5) (N := 17) hx hb hts hin_X5 hown hK hP 0 rfl rfl 0 (by decide) hf_7 (fun _ h9 => h9) rfl dX5_times_6 ?_
      refine lv_iconst (v := 0) hx hb dX5_times_9 (by decide) ?_
      refine va_iald hx hb hK hP 1 0 rfl rfl (sx_ib_s (by decide)) dX5_times_10 ?_
      refine lv_icmp_ge (tgt := 51) hx hb dX5_times_11 (by decide) (fun c3 => ?_) (fun c3 => ?_)
      · replace hM := sx_ift c3 hM
        refine lv_iload_n hx hb dX5_times_51 rfl (lv_at hl 1 rfl) ?_
        obtain rfl := sx_o1 hM
        exact hret _ _ _ _ dX5_times_52 (hP.sub [0, 1] rfl) (hD.sub [0, 1] (by decide) rfl) hS
      · replace hM := sx_iff c3 hM
        refine lv_iconst (v := 0) hx hb dX5_times_14 (by decide) ?_
        refine lv_istore_n (lv' := [(3, .int (0 : Int32)), (0, .ref m_h), (1, .int x1), (2, .int x2)]) hx hb dX5_times_15 rfl hl (by decide) rfl (fun ls hl => ?_)
        obtain ⟨k_45, ek_45, hM⟩ := sx_lt_s hM
        have hk_45 : ∀ (x4 : Int32) (H : Heap) (locs : List Loc) (ls : Array Slot), k_45 x4 = some r0 → lv_has ls 4 [(0, .ref m_h), (1, .int x4), (2, .int x2)] → va_P D vwCl [(m_h, .inr (5, [.ref m_now_a, .ref m_tape_a, .int m_typed, .int m_place, .int m_isFault, .ref m_read_a, .ref m_heard_a, .ref m_undone_a, .int m_undos, .ref m_aside_a, .ref m_kept_a, .int m_keptUndos, .int m_isKept, .ref m_lanes_a, .ref m_sizes_a, .ref m_items_a, .ref m_moved_a])), (m_now_a, .inl (cI, 65, .inl m_now))] H → va_D A [(m_h, .inr (5, [.ref m_now_a, .ref m_tape_a, .int m_typed, .int m_place, .int m_isFault, .ref m_read_a, .ref m_heard_a, .ref m_undone_a, .int m_undos, .ref m_aside_a, .ref m_kept_a, .int m_keptUndos, .int m_isKept, .ref m_lanes_a, .ref m_sizes_a, .ref m_items_a, .ref m_moved_a])), (m_now_a, .inl (cI, 65, .inl m_now))] → va_S A H0 H locs → W p l e R s m args below meth c H locs cells slots Q (F0 m 45 ls ([])) := by
          intro x4 H locs ls hM hl hP hD hS
          rw [ek_45] at hM
          obtain ⟨v5, ev5, hM⟩ := sx_nm_s hM
          refine lv_iinc (v := v5) (lv' := [(2, .int v5), (0, .ref m_h), (1, .int x4)]) hx hb dX5_times_45 hl (k := 2) rfl (by rw [ev5]; rfl) (by decide) rfl (fun ls hl => ?_)
          refine lv_goto (tgt := 4) hx hb dX5_times_48 (by decide) ?_
          exact ih x4 v5 _ _ _ hM (lv_sub hl [1, 2, 0] rfl) (hP.sub [0, 1] rfl) (hD.sub [0, 1] (by decide) rfl) hS
        have lp_16 : ∀ (n : Nat) (x6 : Int32) (x7 : Int32) (H : Heap) (locs : List Loc) (ls : Array Slot), sx_lp2 (bdX5_times_16 F x2 m_now k_45) n x6 x7 = some r0 → lv_has ls 4 [(0, .ref m_h), (1, .int x6), (2, .int x2), (3, .int x7)] → va_P D vwCl [(m_h, .inr (5, [.ref m_now_a, .ref m_tape_a, .int m_typed, .int m_place, .int m_isFault, .ref m_read_a, .ref m_heard_a, .ref m_undone_a, .int m_undos, .ref m_aside_a, .ref m_kept_a, .int m_keptUndos, .int m_isKept, .ref m_lanes_a, .ref m_sizes_a, .ref m_items_a, .ref m_moved_a])), (m_now_a, .inl (cI, 65, .inl m_now))] H → va_D A [(m_h, .inr (5, [.ref m_now_a, .ref m_tape_a, .int m_typed, .int m_place, .int m_isFault, .ref m_read_a, .ref m_heard_a, .ref m_undone_a, .int m_undos, .ref m_aside_a, .ref m_kept_a, .int m_keptUndos, .int m_isKept, .ref m_lanes_a, .ref m_sizes_a, .ref m_items_a, .ref m_moved_a])), (m_now_a, .inl (cI, 65, .inl m_now))] → va_S A H0 H locs → W p l e R s m args below meth c H locs cells slots Q (F0 m 16 ls ([])) := by
          intro n
          induction n with
          | zero => intro x6 x7 H locs ls hM; exact (sx_lp2_0 hM).elim
          | succ n ih =>
            intro x6 x7 H locs ls hM hl hP hD hS
            have hM : bdX5_times_16 F x2 m_now k_45 (sx_lp2 (bdX5_times_16 F x2 m_now k_45) n) x6 x7 = some r0 := hM
            generalize sx_lp2 (bdX5_times_16 F x2 m_now k_45) n = r_16 at hM ih
            unfold bdX5_times_16 at hM
            refine lv_iload_n hx hb dX5_times_16 rfl (lv_at hl 3 rfl) ?_
            refine lv_bipush (v := 8) hx hb dX5_times_17 (by decide) ?_
            refine lv_icmp_ge (tgt := 45) hx hb dX5_times_19 (by decide) (fun c8 => ?_) (fun c8 => ?_)
            · replace hM := sx_ift c8 hM
              exact hk_45 x6 _ _ _ hM (lv_sub hl [0, 1, 2] rfl) (hP.sub [0, 1] rfl) (hD.sub [0, 1] (by decide) rfl) hS
            · replace hM := sx_iff c8 hM
              refine lv_iload_n hx hb dX5_times_22 rfl (lv_at hl 1 rfl) ?_
              refine lv_aload_n hx hb dX5_times_23 rfl (lv_at hl 0 rfl) ?_
              refine lv_iload_n hx hb dX5_times_24 rfl (lv_at hl 2 rfl) ?_
              refine lv_iload_n hx hb dX5_times_25 rfl (lv_at hl 3 rfl) ?_
              obtain ⟨r9, hc10, hM⟩ := sx_c1_s hM
              refine sx_iV (As := [.int x2, .int x7]) (rest := [.int x6]) (wc := [(m_h, .inr (5, [.ref m_now_a, .ref m_tape_a, .int m_typed, .int m_place, .int m_isFault, .ref m_read_a, .ref m_heard_a, .ref m_undone_a, .int m_undos, .ref m_aside_a, .ref m_kept_a, .int m_keptUndos, .int m_isKept, .ref m_lanes_a, .ref m_sizes_a, .ref m_items_a, .ref m_moved_a])), (m_now_a, .inl (cI, 65, .inl m_now))]) (wr := []) (w1 := [(m_h, .inr (5, [.ref m_now_a, .ref m_tape_a, .int m_typed, .int m_place, .int m_isFault, .ref m_read_a, .ref m_heard_a, .ref m_undone_a, .int m_undos, .ref m_aside_a, .ref m_kept_a, .int m_keptUndos, .int m_isKept, .ref m_lanes_a, .ref m_sizes_a, .ref m_items_a, .ref m_moved_a])), (m_now_a, .inl (cI, 65, .inl m_now))]) ⟨hx, hb, hml, hown, hts⟩ (mtX5_knows l D cI cJ cS H.size m_h m_now_a m_tape_a m_read_a m_heard_a m_undone_a m_aside_a m_kept_a m_lanes_a m_sizes_a m_items_a m_moved_a m_now m_typed m_place m_isFault m_undos m_keptUndos m_isKept x2 x7 F r9 hc10) (cwV 2 hts gX5_times_X5_knows rfl rfl rfl (by decide +kernel) ⟨Nat.le_trans (by decide) hRf, Nat.le_trans (by decide) hRl⟩) hK hN hP hD hS hA [0, 1] [] rfl (by decide) rfl (by decide) (by decide) rfl rfl rfl rfl hl.1 rfl (Nat.le_of_ble_eq_true rfl) dX5_times_26 hRc (fun H locs hP hD hS => ?_)
              have hP : va_P D vwCl [(m_h, .inr (5, [.ref m_now_a, .ref m_tape_a, .int m_typed, .int m_place, .int m_isFault, .ref m_read_a, .ref m_heard_a, .ref m_undone_a, .int m_undos, .ref m_aside_a, .ref m_kept_a, .int m_keptUndos, .int m_isKept, .ref m_lanes_a, .ref m_sizes_a, .ref m_items_a, .ref m_moved_a])), (m_now_a, .inl (cI, 65, .inl m_now))] H := hP
              have hD : va_D A [(m_h, .inr (5, [.ref m_now_a, .ref m_tape_a, .int m_typed, .int m_place, .int m_isFault, .ref m_read_a, .ref m_heard_a, .ref m_undone_a, .int m_undos, .ref m_aside_a, .ref m_kept_a, .int m_keptUndos, .int m_isKept, .ref m_lanes_a, .ref m_sizes_a, .ref m_items_a, .ref m_moved_a])), (m_now_a, .inl (cI, 65, .inl m_now))] := hD
              obtain ⟨k_37, ek_37, hM⟩ := sx_lt_s hM
              have hk_37 : ∀ (y11 : Int32) (H : Heap) (locs : List Loc) (ls : Array Slot), k_37 y11 = some r0 → lv_has ls 4 [(0, .ref m_h), (2, .int x2), (3, .int x7)] → va_P D vwCl [(m_h, .inr (5, [.ref m_now_a, .ref m_tape_a, .int m_typed, .int m_place, .int m_isFault, .ref m_read_a, .ref m_heard_a, .ref m_undone_a, .int m_undos, .ref m_aside_a, .ref m_kept_a, .int m_keptUndos, .int m_isKept, .ref m_lanes_a, .ref m_sizes_a, .ref m_items_a, .ref m_moved_a])), (m_now_a, .inl (cI, 65, .inl m_now))] H → va_D A [(m_h, .inr (5, [.ref m_now_a, .ref m_tape_a, .int m_typed, .int m_place, .int m_isFault, .ref m_read_a, .ref m_heard_a, .ref m_undone_a, .int m_undos, .ref m_aside_a, .ref m_kept_a, .int m_keptUndos, .int m_isKept, .ref m_lanes_a, .ref m_sizes_a, .ref m_items_a, .ref m_moved_a])), (m_now_a, .inl (cI, 65, .inl m_now))] → va_S A H0 H locs → W p l e R s m args below meth c H locs cells slots Q (F0 m 37 ls (.int y11 :: .int x6 :: [])) := by
                intro y11 H locs ls hM hl hP hD hS
                rw [ek_37] at hM
                refine lv_iadd hx hb dX5_times_37 ?_
                obtain ⟨v12, ev12, hM⟩ := sx_nm_s hM
                refine W.eq (g2 := F0 m 38 ls (.int v12 :: [])) (by subst ev12; rfl) ?_
                refine lv_istore_n (lv' := [(1, .int v12), (0, .ref m_h), (2, .int x2), (3, .int x7)]) hx hb dX5_times_38 rfl hl (by decide) rfl (fun ls hl => ?_)
                obtain ⟨v13, ev13, hM⟩ := sx_nm_s hM
                refine lv_iinc (v := v13) (lv' := [(3, .int v13), (1, .int v12), (0, .ref m_h), (2, .int x2)]) hx hb dX5_times_39 hl (k := 3) rfl (by rw [ev13]; rfl) (by decide) rfl (fun ls hl => ?_)
                refine lv_goto (tgt := 16) hx hb dX5_times_42 (by decide) ?_
                exact ih v12 v13 _ _ _ hM (lv_sub hl [2, 1, 3, 0] rfl) (hP.sub [0, 1] rfl) (hD.sub [0, 1] (by decide) rfl) hS
              refine lv_if_eq (tgt := 36) hx hb dX5_times_29 (by decide) (fun c14 => ?_) (fun c14 => ?_)
              · replace hM := sx_ift c14 hM
                refine lv_iconst (v := 0) hx hb dX5_times_36 (by decide) ?_
                exact hk_37 (0 : Int32) _ _ _ hM (lv_sub hl [0, 2, 3] rfl) (hP.sub [0, 1] rfl) (hD.sub [0, 1] (by decide) rfl) hS
              · replace hM := sx_iff c14 hM
                refine lv_iconst (v := 1) hx hb dX5_times_32 (by decide) ?_
                refine lv_goto (tgt := 37) hx hb dX5_times_33 (by decide) ?_
                exact hk_37 (1 : Int32) _ _ _ hM (lv_sub hl [0, 2, 3] rfl) (hP.sub [0, 1] rfl) (hD.sub [0, 1] (by decide) rfl) hS
        exact lp_16 F x1 (0 : Int32) _ _ _ hM (lv_sub hl [1, 2, 3, 0] rfl) (hP.sub [0, 1] rfl) (hD.sub [0, 1] (by decide) rfl) hS
  exact lp_4 F (0 : Int32) (0 : Int32) _ _ _ hM (lv_sub hl [2, 1, 0] rfl) (hP.sub [0, 1] rfl) (hD.sub [0, 1] (by decide) rfl) hS
set_option maxHeartbeats 4000000 in
set_option maxRecDepth 100000 in
theorem mtX5_times (l : Launch) (D : va_G) (cI cJ cS : ClassId) (sz : Nat) (m_h m_now_a m_tape_a m_read_a m_heard_a m_undone_a m_aside_a m_kept_a m_lanes_a m_sizes_a m_items_a m_moved_a : Nat) (m_now : Nat → Int32) (m_typed : Int32) (m_place : Int32) (m_isFault : Int32) (m_undos : Int32) (m_keptUndos : Int32) (m_isKept : Int32) (F : Nat) (r0 : Int32) (hM : fnX5_times F m_now = some r0) : sx_MI l yX5_times wsX5_times ({ frames := 2, cells := 0, slots := 0, locals := 44 }) D (sx_T cI cJ cS) sz [.ref m_h] [(m_h, .inr (5, [.ref m_now_a, .ref m_tape_a, .int m_typed, .int m_place, .int m_isFault, .ref m_read_a, .ref m_heard_a, .ref m_undone_a, .int m_undos, .ref m_aside_a, .ref m_kept_a, .int m_keptUndos, .int m_isKept, .ref m_lanes_a, .ref m_sizes_a, .ref m_items_a, .ref m_moved_a])), (m_now_a, .inl (cI, 65, .inl m_now))] r0 [(m_h, .inr (5, [.ref m_now_a, .ref m_tape_a, .int m_typed, .int m_place, .int m_isFault, .ref m_read_a, .ref m_heard_a, .ref m_undone_a, .int m_undos, .ref m_aside_a, .ref m_kept_a, .int m_keptUndos, .int m_isKept, .ref m_lanes_a, .ref m_sizes_a, .ref m_items_a, .ref m_moved_a])), (m_now_a, .inl (cI, 65, .inl m_now))] := by
  refine Met.ofW (cc := cX5_times) (maxL := 4) (ret := (some .int)) (by decide) rfl ?_
  intro p e s m args below meth c s₁ B hml hv
  obtain ⟨rfl, hsz, hN, hP, hK, hD0⟩ := hv
  subst hsz
  have hl := lv_entry ([.ref m_h]) (n := 4) (Nat.le_of_ble_eq_true rfl)
  rw [lg_entry_eq]
  generalize (lg_sl ([.ref m_h]) ++ List.replicate (4 - (lg_sl ([.ref m_h])).length) Slot.unset).toArray = ls at hl ⊢
  exact kwX5_times B.exec B.bytes hml (findClass_of_methodNamed B.named) (atoms_spec (ws := wsX5_times) B.pre) hN hK (fun q h => Or.inr h) (by decide) (by decide) ⟨Nat.zero_le _, Nat.zero_le _⟩ m_h m_now_a m_tape_a m_read_a m_heard_a m_undone_a m_aside_a m_kept_a m_lanes_a m_sizes_a m_items_a m_moved_a m_now m_typed m_place m_isFault m_undos m_keptUndos m_isKept F r0 hM _ _ _ hl hP hD0.self va_S.rf (fun H1 locs1 ls1 pc1 hd hP hD hS => W.iret (v := r0) B.exec B.bytes B.returns (fun t ht hW => ⟨⟨r0, (), rfl, rfl, by rw [ht]; exact hP, hD⟩, hS.F ht⟩) hS.2.2 hd)

def bdX5_openOnes_16 (F : Nat) (x2_ : Int32) (m_now : Nat → Int32) (kf_45 : Int32 → Option (Int32)) (r_ : Int32 → Int32 → Option (Int32)) (x1_ : Int32) (x3_ : Int32) : Option (Int32) :=
  (if (8 : Int32) ≤ x3_ then (kf_45 x1_) else sx_c1 (fnX5_sealOf F m_now x2_ x3_) (fun (r9 : Int32) => sx_lt (fun (y11 : Int32) => sx_nm (x1_ + y11) (fun (v12 : Int32) => sx_nm (x3_ + (1 : Int32)) (fun (v13 : Int32) => (r_ v12 v13)))) (fun (k_37 : Int32 → Option (Int32)) => (if r9 = 0 then (k_37 (1 : Int32)) else (k_37 (0 : Int32))))))
def bdX5_openOnes_4 (F : Nat) (m_now : Nat → Int32) (r_ : Int32 → Int32 → Option (Int32)) (x1_ : Int32) (x2_ : Int32) : Option (Int32) :=
  (if (m_now ((0 : Int32)).toNatClampNeg) ≤ x2_ then (some (x1_)) else sx_lt (fun (x4 : Int32) => sx_nm (x2_ + (1 : Int32)) (fun (v5 : Int32) => (r_ x4 v5))) (fun (k_45 : Int32 → Option (Int32)) => sx_lp2 (bdX5_openOnes_16 F x2_ m_now k_45) F x1_ (0 : Int32)))
def fnX5_openOnes (F : Nat) (m_now : Nat → Int32) : Option (Int32) :=
  sx_lp2 (bdX5_openOnes_4 F m_now) F (0 : Int32) (0 : Int32)
set_option maxHeartbeats 4000000 in
set_option maxRecDepth 100000 in
theorem kwX5_openOnes {p : Program} {l : Launch} {e : Env} {R : Room} {s : State} {m : MethodId} {args : Array Value} {below : List Frame} {meth : Method} {c : Code} {cells slots : Nat} {Q : State → Prop} {A : Nat → Prop} {H0 : Heap} {D : va_G} {cI cJ cS : ClassId} (hx : p.tables.exec = Jvm.exec) (hb : c.code = cX5_openOnes) (hml : c.maxLocals = 4) (hown : s.vm.findClass RX5 = some m.cls) (hts : ∀ w ∈ wsX5_openOnes, w.before args s = true) (hN : sx_N s) (hK : va_K D vwCl (sx_T cI cJ cS) s) (hA : ∀ q, H0.size ≤ q → A q) (hRf : 1 ≤ R.frames) (hRl : 22 ≤ R.locals) (hRc : cells ≤ R.cells ∧ slots ≤ R.slots) (m_h m_now_a m_tape_a m_read_a m_heard_a m_undone_a m_aside_a m_kept_a m_lanes_a m_sizes_a m_items_a m_moved_a : Nat) (m_now : Nat → Int32) (m_typed : Int32) (m_place : Int32) (m_isFault : Int32) (m_undos : Int32) (m_keptUndos : Int32) (m_isKept : Int32) (F : Nat) (r0 : Int32) (hM : fnX5_openOnes F m_now = some r0) (H : Heap) (locs : List Loc) (ls : Array Slot) (hl : lv_has ls 4 [(0, .ref m_h)]) (hP : va_P D vwCl [(m_h, .inr (5, [.ref m_now_a, .ref m_tape_a, .int m_typed, .int m_place, .int m_isFault, .ref m_read_a, .ref m_heard_a, .ref m_undone_a, .int m_undos, .ref m_aside_a, .ref m_kept_a, .int m_keptUndos, .int m_isKept, .ref m_lanes_a, .ref m_sizes_a, .ref m_items_a, .ref m_moved_a])), (m_now_a, .inl (cI, 65, .inl m_now))] H) (hD : va_D A [(m_h, .inr (5, [.ref m_now_a, .ref m_tape_a, .int m_typed, .int m_place, .int m_isFault, .ref m_read_a, .ref m_heard_a, .ref m_undone_a, .int m_undos, .ref m_aside_a, .ref m_kept_a, .int m_keptUndos, .int m_isKept, .ref m_lanes_a, .ref m_sizes_a, .ref m_items_a, .ref m_moved_a])), (m_now_a, .inl (cI, 65, .inl m_now))]) (hS : va_S A H0 H locs)
    (hret : ∀ (H1 : Heap) (locs1 : List Loc) (ls1 : Array Slot) (pc1 : Nat), decode cX5_openOnes pc1 = .ok (.ireturn, 1) → va_P D vwCl [(m_h, .inr (5, [.ref m_now_a, .ref m_tape_a, .int m_typed, .int m_place, .int m_isFault, .ref m_read_a, .ref m_heard_a, .ref m_undone_a, .int m_undos, .ref m_aside_a, .ref m_kept_a, .int m_keptUndos, .int m_isKept, .ref m_lanes_a, .ref m_sizes_a, .ref m_items_a, .ref m_moved_a])), (m_now_a, .inl (cI, 65, .inl m_now))] H1 → va_D A [(m_h, .inr (5, [.ref m_now_a, .ref m_tape_a, .int m_typed, .int m_place, .int m_isFault, .ref m_read_a, .ref m_heard_a, .ref m_undone_a, .int m_undos, .ref m_aside_a, .ref m_kept_a, .int m_keptUndos, .int m_isKept, .ref m_lanes_a, .ref m_sizes_a, .ref m_items_a, .ref m_moved_a])), (m_now_a, .inl (cI, 65, .inl m_now))] → va_S A H0 H1 locs1 → W p l e R s m args below meth c H1 locs1 cells slots Q (F0 m pc1 ls1 [.int r0])) : W p l e R s m args below meth c H locs cells slots Q (F0 m 0 ls []) := by
  have hf_7 := hts (.fieldLink RX5 7 "SealedLipsModel" "now" "[I") (by decide +kernel)
  have hin_X5 : ∀ w ∈ wsX50, w ∈ wsX5_openOnes := by decide +kernel
  unfold fnX5_openOnes at hM
  refine lv_iconst (v := 0) hx hb dX5_openOnes_0 (by decide) ?_
  refine lv_istore_n (lv' := [(1, .int (0 : Int32)), (0, .ref m_h)]) hx hb dX5_openOnes_1 rfl hl (by decide) rfl (fun ls hl => ?_)
  refine lv_iconst (v := 0) hx hb dX5_openOnes_2 (by decide) ?_
  refine lv_istore_n (lv' := [(2, .int (0 : Int32)), (1, .int (0 : Int32)), (0, .ref m_h)]) hx hb dX5_openOnes_3 rfl hl (by decide) rfl (fun ls hl => ?_)
  have lp_4 : ∀ (n : Nat) (x1 : Int32) (x2 : Int32) (H : Heap) (locs : List Loc) (ls : Array Slot), sx_lp2 (bdX5_openOnes_4 F m_now) n x1 x2 = some r0 → lv_has ls 4 [(0, .ref m_h), (1, .int x1), (2, .int x2)] → va_P D vwCl [(m_h, .inr (5, [.ref m_now_a, .ref m_tape_a, .int m_typed, .int m_place, .int m_isFault, .ref m_read_a, .ref m_heard_a, .ref m_undone_a, .int m_undos, .ref m_aside_a, .ref m_kept_a, .int m_keptUndos, .int m_isKept, .ref m_lanes_a, .ref m_sizes_a, .ref m_items_a, .ref m_moved_a])), (m_now_a, .inl (cI, 65, .inl m_now))] H → va_D A [(m_h, .inr (5, [.ref m_now_a, .ref m_tape_a, .int m_typed, .int m_place, .int m_isFault, .ref m_read_a, .ref m_heard_a, .ref m_undone_a, .int m_undos, .ref m_aside_a, .ref m_kept_a, .int m_keptUndos, .int m_isKept, .ref m_lanes_a, .ref m_sizes_a, .ref m_items_a, .ref m_moved_a])), (m_now_a, .inl (cI, 65, .inl m_now))] → va_S A H0 H locs → W p l e R s m args below meth c H locs cells slots Q (F0 m 4 ls ([])) := by
    intro n
    induction n with
    | zero => intro x1 x2 H locs ls hM; exact (sx_lp2_0 hM).elim
    | succ n ih =>
      intro x1 x2 H locs ls hM hl hP hD hS
      have hM : bdX5_openOnes_4 F m_now (sx_lp2 (bdX5_openOnes_4 F m_now) n) x1 x2 = some r0 := hM
      generalize sx_lp2 (bdX5_openOnes_4 F m_now) n = r_4 at hM ih
      unfold bdX5_openOnes_4 at hM
      refine lv_iload_n hx hb dX5_openOnes_4 rfl (lv_at hl 2 rfl) ?_
      refine lv_aload_n hx hb dX5_openOnes_5 rfl (lv_at hl 0 rfl) ?_
      refine va_get (D := D) (ci := 5) (v := .ref m_now_a) (C := RX5) (T := TX5) (N := 17) hx hb hts hin_X5 hown hK hP 0 rfl rfl 0 (by decide) hf_7 (fun _ h9 => h9) rfl dX5_openOnes_6 ?_
      refine lv_iconst (v := 0) hx hb dX5_openOnes_9 (by decide) ?_
      refine va_iald hx hb hK hP 1 0 rfl rfl (sx_ib_s (by decide)) dX5_openOnes_10 ?_
      refine lv_icmp_ge (tgt := 51) hx hb dX5_openOnes_11 (by decide) (fun c3 => ?_) (fun c3 => ?_)
      · replace hM := sx_ift c3 hM
        refine lv_iload_n hx hb dX5_openOnes_51 rfl (lv_at hl 1 rfl) ?_
        obtain rfl := sx_o1 hM
        exact hret _ _ _ _ dX5_openOnes_52 (hP.sub [0, 1] rfl) (hD.sub [0, 1] (by decide) rfl) hS
      · replace hM := sx_iff c3 hM
        refine lv_iconst (v := 0) hx hb dX5_openOnes_14 (by decide) ?_
        refine lv_istore_n (lv' := [(3, .int (0 : Int32)), (0, .ref m_h), (1, .int x1), (2, .int x2)]) hx hb dX5_openOnes_15 rfl hl (by decide) rfl (fun ls hl => ?_)
        obtain ⟨k_45, ek_45, hM⟩ := sx_lt_s hM
        have hk_45 : ∀ (x4 : Int32) (H : Heap) (locs : List Loc) (ls : Array Slot), k_45 x4 = some r0 → lv_has ls 4 [(0, .ref m_h), (1, .int x4), (2, .int x2)] → va_P D vwCl [(m_h, .inr (5, [.ref m_now_a, .ref m_tape_a, .int m_typed, .int m_place, .int m_isFault, .ref m_read_a, .ref m_heard_a, .ref m_undone_a, .int m_undos, .ref m_aside_a, .ref m_kept_a, .int m_keptUndos, .int m_isKept, .ref m_lanes_a, .ref m_sizes_a, .ref m_items_a, .ref m_moved_a])), (m_now_a, .inl (cI, 65, .inl m_now))] H → va_D A [(m_h, .inr (5, [.ref m_now_a, .ref m_tape_a, .int m_typed, .int m_place, .int m_isFault, .ref m_read_a, .ref m_heard_a, .ref m_undone_a, .int m_undos, .ref m_aside_a, .ref m_kept_a, .int m_keptUndos, .int m_isKept, .ref m_lanes_a, .ref m_sizes_a, .ref m_items_a, .ref m_moved_a])), (m_now_a, .inl (cI, 65, .inl m_now))] → va_S A H0 H locs → W p l e R s m args below meth c H locs cells slots Q (F0 m 45 ls ([])) := by
          intro x4 H locs ls hM hl hP hD hS
          rw [ek_45] at hM
          obtain ⟨v5, ev5, hM⟩ := sx_nm_s hM
          refine lv_iinc (v := v5) (lv' := [(2, .int v5), (0, .ref m_h), (1, .int x4)]) hx hb dX5_openOnes_45 hl (k := 2) rfl (by rw [ev5]; rfl) (by decide) rfl (fun ls hl => ?_)
          refine lv_goto (tgt := 4) hx hb dX5_openOnes_48 (by decide) ?_
          exact ih x4 v5 _ _ _ hM (lv_sub hl [1, 2, 0] rfl) (hP.sub [0, 1] rfl) (hD.sub [0, 1] (by decide) rfl) hS
        have lp_16 : ∀ (n : Nat) (x6 : Int32) (x7 : Int32) (H : Heap) (locs : List Loc) (ls : Array Slot), sx_lp2 (bdX5_openOnes_16 F x2 m_now k_45) n x6 x7 = some r0 → lv_has ls 4 [(0, .ref m_h), (1, .int x6), (2, .int x2), (3, .int x7)] → va_P D vwCl [(m_h, .inr (5, [.ref m_now_a, .ref m_tape_a, .int m_typed, .int m_place, .int m_isFault, .ref m_read_a, .ref m_heard_a, .ref m_undone_a, .int m_undos, .ref m_aside_a, .ref m_kept_a, .int m_keptUndos, .int m_isKept, .ref m_lanes_a, .ref m_sizes_a, .ref m_items_a, .ref m_moved_a])), (m_now_a, .inl (cI, 65, .inl m_now))] H → va_D A [(m_h, .inr (5, [.ref m_now_a, .ref m_tape_a, .int m_typed, .int m_place, .int m_isFault, .ref m_read_a, .ref m_heard_a, .ref m_undone_a, .int m_undos, .ref m_aside_a, .ref m_kept_a, .int m_keptUndos, .int m_isKept, .ref m_lanes_a, .ref m_sizes_a, .ref m_items_a, .ref m_moved_a])), (m_now_a, .inl (cI, 65, .inl m_now))] → va_S A H0 H locs → W p l e R s m args below meth c H locs cells slots Q (F0 m 16 ls ([])) := by
          intro n
          induction n with
          | zero => intro x6 x7 H locs ls hM; exact (sx_lp2_0 hM).elim
          | succ n ih =>
            intro x6 x7 H locs ls hM hl hP hD hS
            have hM : bdX5_openOnes_16 F x2 m_now k_45 (sx_lp2 (bdX5_openOnes_16 F x2 m_now k_45) n) x6 x7 = some r0 := hM
            generalize sx_lp2 (bdX5_openOnes_16 F x2 m_now k_45) n = r_16 at hM ih
            unfold bdX5_openOnes_16 at hM
            refine lv_iload_n hx hb dX5_openOnes_16 rfl (lv_at hl 3 rfl) ?_
            refine lv_bipush (v := 8) hx hb dX5_openOnes_17 (by decide) ?_
            refine lv_icmp_ge (tgt := 45) hx hb dX5_openOnes_19 (by decide) (fun c8 => ?_) (fun c8 => ?_)
            · replace hM := sx_ift c8 hM
              exact hk_45 x6 _ _ _ hM (lv_sub hl [0, 1, 2] rfl) (hP.sub [0, 1] rfl) (hD.sub [0, 1] (by decide) rfl) hS
            · replace hM := sx_iff c8 hM
              refine lv_iload_n hx hb dX5_openOnes_22 rfl (lv_at hl 1 rfl) ?_
              refine lv_aload_n hx hb dX5_openOnes_23 rfl (lv_at hl 0 rfl) ?_
              refine lv_iload_n hx hb dX5_openOnes_24 rfl (lv_at hl 2 rfl) ?_
              refine lv_iload_n hx hb dX5_openOnes_25 rfl (lv_at hl 3 rfl) ?_
              obtain ⟨r9, hc10, hM⟩ := sx_c1_s hM
              refine sx_iV (As := [.int x2, .int x7]) (rest := [.int x6]) (wc := [(m_h, .inr (5, [.ref m_now_a, .ref m_tape_a, .int m_typed, .int m_place, .int m_isFault, .ref m_read_a, .ref m_heard_a, .ref m_undone_a, .int m_undos, .ref m_aside_a, .ref m_kept_a, .int m_keptUndos, .int m_isKept, .ref m_lanes_a, .ref m_sizes_a, .ref m_items_a, .ref m_moved_a])), (m_now_a, .inl (cI, 65, .inl m_now))]) (wr := []) (w1 := [(m_h, .inr (5, [.ref m_now_a, .ref m_tape_a, .int m_typed, .int m_place, .int m_isFault, .ref m_read_a, .ref m_heard_a, .ref m_undone_a, .int m_undos, .ref m_aside_a, .ref m_kept_a, .int m_keptUndos, .int m_isKept, .ref m_lanes_a, .ref m_sizes_a, .ref m_items_a, .ref m_moved_a])), (m_now_a, .inl (cI, 65, .inl m_now))]) ⟨hx, hb, hml, hown, hts⟩ (mtX5_sealOf l D cI cJ cS H.size m_h m_now_a m_tape_a m_read_a m_heard_a m_undone_a m_aside_a m_kept_a m_lanes_a m_sizes_a m_items_a m_moved_a m_now m_typed m_place m_isFault m_undos m_keptUndos m_isKept x2 x7 F r9 hc10) (cwV 2 hts gX5_openOnes_X5_sealOf rfl rfl rfl (by decide +kernel) ⟨Nat.le_trans (by decide) hRf, Nat.le_trans (by decide) hRl⟩) hK hN hP hD hS hA [0, 1] [] rfl (by decide) rfl (by decide) (by decide) rfl rfl rfl rfl hl.1 rfl (Nat.le_of_ble_eq_true rfl) dX5_openOnes_26 hRc (fun H locs hP hD hS => ?_)
              have hP : va_P D vwCl [(m_h, .inr (5, [.ref m_now_a, .ref m_tape_a, .int m_typed, .int m_place, .int m_isFault, .ref m_read_a, .ref m_heard_a, .ref m_undone_a, .int m_undos, .ref m_aside_a, .ref m_kept_a, .int m_keptUndos, .int m_isKept, .ref m_lanes_a, .ref m_sizes_a, .ref m_items_a, .ref m_moved_a])), (m_now_a, .inl (cI, 65, .inl m_now))] H := hP
              have hD : va_D A [(m_h, .inr (5, [.ref m_now_a, .ref m_tape_a, .int m_typed, .int m_place, .int m_isFault, .ref m_read_a, .ref m_heard_a, .ref m_undone_a, .int m_undos, .ref m_aside_a, .ref m_kept_a, .int m_keptUndos, .int m_isKept, .ref m_lanes_a, .ref m_sizes_a, .ref m_items_a, .ref m_moved_a])), (m_now_a, .inl (cI, 65, .inl m_now))] := hD
              obtain ⟨k_37, ek_37, hM⟩ := sx_lt_s hM
              have hk_37 : ∀ (y11 : Int32) (H : Heap) (locs : List Loc) (ls : Array Slot), k_37 y11 = some r0 → lv_has ls 4 [(0, .ref m_h), (2, .int x2), (3, .int x7)] → va_P D vwCl [(m_h, .inr (5, [.ref m_now_a, .ref m_tape_a, .int m_typed, .int m_place, .int m_isFault, .ref m_read_a, .ref m_heard_a, .ref m_undone_a, .int m_undos, .ref m_aside_a, .ref m_kept_a, .int m_keptUndos, .int m_isKept, .ref m_lanes_a, .ref m_sizes_a, .ref m_items_a, .ref m_moved_a])), (m_now_a, .inl (cI, 65, .inl m_now))] H → va_D A [(m_h, .inr (5, [.ref m_now_a, .ref m_tape_a, .int m_typed, .int m_place, .int m_isFault, .ref m_read_a, .ref m_heard_a, .ref m_undone_a, .int m_undos, .ref m_aside_a, .ref m_kept_a, .int m_keptUndos, .int m_isKept, .ref m_lanes_a, .ref m_sizes_a, .ref m_items_a, .ref m_moved_a])), (m_now_a, .inl (cI, 65, .inl m_now))] → va_S A H0 H locs → W p l e R s m args below meth c H locs cells slots Q (F0 m 37 ls (.int y11 :: .int x6 :: [])) := by
                intro y11 H locs ls hM hl hP hD hS
                rw [ek_37] at hM
                refine lv_iadd hx hb dX5_openOnes_37 ?_
                obtain ⟨v12, ev12, hM⟩ := sx_nm_s hM
                refine W.eq (g2 := F0 m 38 ls (.int v12 :: [])) (by subst ev12; rfl) ?_
                refine lv_istore_n (lv' := [(1, .int v12), (0, .ref m_h), (2, .int x2), (3, .int x7)]) hx hb dX5_openOnes_38 rfl hl (by decide) rfl (fun ls hl => ?_)
                obtain ⟨v13, ev13, hM⟩ := sx_nm_s hM
                refine lv_iinc (v := v13) (lv' := [(3, .int v13), (1, .int v12), (0, .ref m_h), (2, .int x2)]) hx hb dX5_openOnes_39 hl (k := 3) rfl (by rw [ev13]; rfl) (by decide) rfl (fun ls hl => ?_)
                refine lv_goto (tgt := 16) hx hb dX5_openOnes_42 (by decide) ?_
                exact ih v12 v13 _ _ _ hM (lv_sub hl [2, 1, 3, 0] rfl) (hP.sub [0, 1] rfl) (hD.sub [0, 1] (by decide) rfl) hS
              refine lv_if_ne (tgt := 36) hx hb dX5_openOnes_29 (by decide) (fun c14 => ?_) (fun c14 => ?_)
              · replace hM := sx_iff c14 hM
                refine lv_iconst (v := 0) hx hb dX5_openOnes_36 (by decide) ?_
                exact hk_37 (0 : Int32) _ _ _ hM (lv_sub hl [0, 2, 3] rfl) (hP.sub [0, 1] rfl) (hD.sub [0, 1] (by decide) rfl) hS
              · replace hM := sx_ift c14 hM
                refine lv_iconst (v := 1) hx hb dX5_openOnes_32 (by decide) ?_
                refine lv_goto (tgt := 37) hx hb dX5_openOnes_33 (by decide) ?_
                exact hk_37 (1 : Int32) _ _ _ hM (lv_sub hl [0, 2, 3] rfl) (hP.sub [0, 1] rfl) (hD.sub [0, 1] (by decide) rfl) hS
        exact lp_16 F x1 (0 : Int32) _ _ _ hM (lv_sub hl [1, 2, 3, 0] rfl) (hP.sub [0, 1] rfl) (hD.sub [0, 1] (by decide) rfl) hS
  exact lp_4 F (0 : Int32) (0 : Int32) _ _ _ hM (lv_sub hl [2, 1, 0] rfl) (hP.sub [0, 1] rfl) (hD.sub [0, 1] (by decide) rfl) hS
set_option maxHeartbeats 4000000 in
set_option maxRecDepth 100000 in
theorem mtX5_openOnes (l : Launch) (D : va_G) (cI cJ cS : ClassId) (sz : Nat) (m_h m_now_a m_tape_a m_read_a m_heard_a m_undone_a m_aside_a m_kept_a m_lanes_a m_sizes_a m_items_a m_moved_a : Nat) (m_now : Nat → Int32) (m_typed : Int32) (m_place : Int32) (m_isFault : Int32) (m_undos : Int32) (m_keptUndos : Int32) (m_isKept : Int32) (F : Nat) (r0 : Int32) (hM : fnX5_openOnes F m_now = some r0) : sx_MI l yX5_openOnes wsX5_openOnes ({ frames := 1, cells := 0, slots := 0, locals := 22 }) D (sx_T cI cJ cS) sz [.ref m_h] [(m_h, .inr (5, [.ref m_now_a, .ref m_tape_a, .int m_typed, .int m_place, .int m_isFault, .ref m_read_a, .ref m_heard_a, .ref m_undone_a, .int m_undos, .ref m_aside_a, .ref m_kept_a, .int m_keptUndos, .int m_isKept, .ref m_lanes_a, .ref m_sizes_a, .ref m_items_a, .ref m_moved_a])), (m_now_a, .inl (cI, 65, .inl m_now))] r0 [(m_h, .inr (5, [.ref m_now_a, .ref m_tape_a, .int m_typed, .int m_place, .int m_isFault, .ref m_read_a, .ref m_heard_a, .ref m_undone_a, .int m_undos, .ref m_aside_a, .ref m_kept_a, .int m_keptUndos, .int m_isKept, .ref m_lanes_a, .ref m_sizes_a, .ref m_items_a, .ref m_moved_a])), (m_now_a, .inl (cI, 65, .inl m_now))] := by
  refine Met.ofW (cc := cX5_openOnes) (maxL := 4) (ret := (some .int)) (by decide) rfl ?_
  intro p e s m args below meth c s₁ B hml hv
  obtain ⟨rfl, hsz, hN, hP, hK, hD0⟩ := hv
  subst hsz
  have hl := lv_entry ([.ref m_h]) (n := 4) (Nat.le_of_ble_eq_true rfl)
  rw [lg_entry_eq]
  generalize (lg_sl ([.ref m_h]) ++ List.replicate (4 - (lg_sl ([.ref m_h])).length) Slot.unset).toArray = ls at hl ⊢
  exact kwX5_openOnes B.exec B.bytes hml (findClass_of_methodNamed B.named) (atoms_spec (ws := wsX5_openOnes) B.pre) hN hK (fun q h => Or.inr h) (by decide) (by decide) ⟨Nat.zero_le _, Nat.zero_le _⟩ m_h m_now_a m_tape_a m_read_a m_heard_a m_undone_a m_aside_a m_kept_a m_lanes_a m_sizes_a m_items_a m_moved_a m_now m_typed m_place m_isFault m_undos m_keptUndos m_isKept F r0 hM _ _ _ hl hP hD0.self va_S.rf (fun H1 locs1 ls1 pc1 hd hP hD hS => W.iret (v := r0) B.exec B.bytes B.returns (fun t ht hW => ⟨⟨r0, (), rfl, rfl, by rw [ht]; exact hP, hD⟩, hS.F ht⟩) hS.2.2 hd)

def fnX5_isOut (F : Nat) (m_now : Nat → Int32) (a1 : Int32) : Option (Int32) :=
  (if (m_now ((0 : Int32)).toNatClampNeg) ≤ 0 then (some ((0 : Int32))) else sx_c1 (fnX5_who F m_now a1) (fun (r2 : Int32) => (if r2 = (((1 : Int32) <<< ((m_now ((0 : Int32)).toNatClampNeg) &&& 31)) - (1 : Int32)) then (some ((1 : Int32))) else (some ((0 : Int32))))))
set_option maxHeartbeats 4000000 in
set_option maxRecDepth 100000 in
theorem kwX5_isOut {p : Program} {l : Launch} {e : Env} {R : Room} {s : State} {m : MethodId} {args : Array Value} {below : List Frame} {meth : Method} {c : Code} {cells slots : Nat} {Q : State → Prop} {A : Nat → Prop} {H0 : Heap} {D : va_G} {cI cJ cS : ClassId} (hx : p.tables.exec = Jvm.exec) (hb : c.code = cX5_isOut) (hml : c.maxLocals = 2) (hown : s.vm.findClass RX5 = some m.cls) (hts : ∀ w ∈ wsX5_isOut, w.before args s = true) (hN : sx_N s) (hK : va_K D vwCl (sx_T cI cJ cS) s) (hA : ∀ q, H0.size ≤ q → A q) (hRf : 3 ≤ R.frames) (hRl : 67 ≤ R.locals) (hRc : cells ≤ R.cells ∧ slots ≤ R.slots) (m_h m_now_a m_tape_a m_read_a m_heard_a m_undone_a m_aside_a m_kept_a m_lanes_a m_sizes_a m_items_a m_moved_a : Nat) (m_now : Nat → Int32) (m_typed : Int32) (m_place : Int32) (m_isFault : Int32) (m_undos : Int32) (m_keptUndos : Int32) (m_isKept : Int32) (a1 : Int32) (F : Nat) (r0 : Int32) (hM : fnX5_isOut F m_now a1 = some r0) (H : Heap) (locs : List Loc) (ls : Array Slot) (hl : lv_has ls 2 [(0, .ref m_h), (1, .int a1)]) (hP : va_P D vwCl [(m_h, .inr (5, [.ref m_now_a, .ref m_tape_a, .int m_typed, .int m_place, .int m_isFault, .ref m_read_a, .ref m_heard_a, .ref m_undone_a, .int m_undos, .ref m_aside_a, .ref m_kept_a, .int m_keptUndos, .int m_isKept, .ref m_lanes_a, .ref m_sizes_a, .ref m_items_a, .ref m_moved_a])), (m_now_a, .inl (cI, 65, .inl m_now))] H) (hD : va_D A [(m_h, .inr (5, [.ref m_now_a, .ref m_tape_a, .int m_typed, .int m_place, .int m_isFault, .ref m_read_a, .ref m_heard_a, .ref m_undone_a, .int m_undos, .ref m_aside_a, .ref m_kept_a, .int m_keptUndos, .int m_isKept, .ref m_lanes_a, .ref m_sizes_a, .ref m_items_a, .ref m_moved_a])), (m_now_a, .inl (cI, 65, .inl m_now))]) (hS : va_S A H0 H locs)
    (hret : ∀ (H1 : Heap) (locs1 : List Loc) (ls1 : Array Slot) (pc1 : Nat), decode cX5_isOut pc1 = .ok (.ireturn, 1) → narrow .boolean (.int r0) = .int r0 → va_P D vwCl [(m_h, .inr (5, [.ref m_now_a, .ref m_tape_a, .int m_typed, .int m_place, .int m_isFault, .ref m_read_a, .ref m_heard_a, .ref m_undone_a, .int m_undos, .ref m_aside_a, .ref m_kept_a, .int m_keptUndos, .int m_isKept, .ref m_lanes_a, .ref m_sizes_a, .ref m_items_a, .ref m_moved_a])), (m_now_a, .inl (cI, 65, .inl m_now))] H1 → va_D A [(m_h, .inr (5, [.ref m_now_a, .ref m_tape_a, .int m_typed, .int m_place, .int m_isFault, .ref m_read_a, .ref m_heard_a, .ref m_undone_a, .int m_undos, .ref m_aside_a, .ref m_kept_a, .int m_keptUndos, .int m_isKept, .ref m_lanes_a, .ref m_sizes_a, .ref m_items_a, .ref m_moved_a])), (m_now_a, .inl (cI, 65, .inl m_now))] → va_S A H0 H1 locs1 → W p l e R s m args below meth c H1 locs1 cells slots Q (F0 m pc1 ls1 [.int r0])) : W p l e R s m args below meth c H locs cells slots Q (F0 m 0 ls []) := by
  have hf_7 := hts (.fieldLink RX5 7 "SealedLipsModel" "now" "[I") (by decide +kernel)
  have hin_X5 : ∀ w ∈ wsX50, w ∈ wsX5_isOut := by decide +kernel
  unfold fnX5_isOut at hM
  refine lv_aload_n hx hb dX5_isOut_0 rfl (lv_at hl 0 rfl) ?_
  refine va_get (D := D) (ci := 5) (v := .ref m_now_a) (C := RX5) (T := TX5) (N := 17) hx hb hts hin_X5 hown hK hP 0 rfl rfl 0 (by decide) hf_7 (fun _ h9 => h9) rfl dX5_isOut_1 ?_
  refine lv_iconst (v := 0) hx hb dX5_isOut_4 (by decide) ?_
  refine va_iald hx hb hK hP 1 0 rfl rfl (sx_ib_s (by decide)) dX5_isOut_5 ?_
  refine lv_if_le (tgt := 31) hx hb dX5_isOut_6 (by decide) (fun c1 => ?_) (fun c1 => ?_)
  · replace hM := sx_ift c1 hM
    refine lv_iconst (v := 0) hx hb dX5_isOut_31 (by decide) ?_
    obtain rfl := sx_o1 hM
    exact hret _ _ _ _ dX5_isOut_32 rfl (hP.sub [0, 1] rfl) (hD.sub [0, 1] (by decide) rfl) hS
  · replace hM := sx_iff c1 hM
    refine lv_aload_n hx hb dX5_isOut_9 rfl (lv_at hl 0 rfl) ?_
    refine lv_iload_n hx hb dX5_isOut_10 rfl (lv_at hl 1 rfl) ?_
    obtain ⟨r2, hc3, hM⟩ := sx_c1_s hM
    refine sx_iV (As := [.int a1]) (rest := []) (wc := [(m_h, .inr (5, [.ref m_now_a, .ref m_tape_a, .int m_typed, .int m_place, .int m_isFault, .ref m_read_a, .ref m_heard_a, .ref m_undone_a, .int m_undos, .ref m_aside_a, .ref m_kept_a, .int m_keptUndos, .int m_isKept, .ref m_lanes_a, .ref m_sizes_a, .ref m_items_a, .ref m_moved_a])), (m_now_a, .inl (cI, 65, .inl m_now))]) (wr := []) (w1 := [(m_h, .inr (5, [.ref m_now_a, .ref m_tape_a, .int m_typed, .int m_place, .int m_isFault, .ref m_read_a, .ref m_heard_a, .ref m_undone_a, .int m_undos, .ref m_aside_a, .ref m_kept_a, .int m_keptUndos, .int m_isKept, .ref m_lanes_a, .ref m_sizes_a, .ref m_items_a, .ref m_moved_a])), (m_now_a, .inl (cI, 65, .inl m_now))]) ⟨hx, hb, hml, hown, hts⟩ (mtX5_who l D cI cJ cS H.size m_h m_now_a m_tape_a m_read_a m_heard_a m_undone_a m_aside_a m_kept_a m_lanes_a m_sizes_a m_items_a m_moved_a m_now m_typed m_place m_isFault m_undos m_keptUndos m_isKept a1 F r2 hc3) (cwV 1 hts gX5_isOut_X5_who rfl rfl rfl (by decide +kernel) ⟨Nat.le_trans (by decide) hRf, Nat.le_trans (by decide) hRl⟩) hK hN hP hD hS hA [0, 1] [] rfl (by decide) rfl (by decide) (by decide) rfl rfl rfl rfl hl.1 rfl (Nat.le_of_ble_eq_true rfl) dX5_isOut_11 hRc (fun H locs hP hD hS => ?_)
    have hP : va_P D vwCl [(m_h, .inr (5, [.ref m_now_a, .ref m_tape_a, .int m_typed, .int m_place, .int m_isFault, .ref m_read_a, .ref m_heard_a, .ref m_undone_a, .int m_undos, .ref m_aside_a, .ref m_kept_a, .int m_keptUndos, .int m_isKept, .ref m_lanes_a, .ref m_sizes_a, .ref m_items_a, .ref m_moved_a])), (m_now_a, .inl (cI, 65, .inl m_now))] H := hP
    have hD : va_D A [(m_h, .inr (5, [.ref m_now_a, .ref m_tape_a, .int m_typed, .int m_place, .int m_isFault, .ref m_read_a, .ref m_heard_a, .ref m_undone_a, .int m_undos, .ref m_aside_a, .ref m_kept_a, .int m_keptUndos, .int m_isKept, .ref m_lanes_a, .ref m_sizes_a, .ref m_items_a, .ref m_moved_a])), (m_now_a, .inl (cI, 65, .inl m_now))] := hD
    refine lv_iconst (v := 1) hx hb dX5_isOut_14 (by decide) ?_
    refine lv_aload_n hx hb dX5_isOut_15 rfl (lv_at hl 0 rfl) ?_
    refine va_get (D := D) (ci := 5) (v := .ref m_now_a) (C := RX5) (T := TX5) (N := 17) hx hb hts hin_X5 hown hK hP 0 rfl rfl 0 (by decide) hf_7 (fun _ h9 => h9) rfl dX5_isOut_16 ?_
    refine lv_iconst (v := 0) hx hb dX5_isOut_19 (by decide) ?_
    refine va_iald hx hb hK hP 1 0 rfl rfl (sx_ib_s (by decide)) dX5_isOut_20 ?_
    refine lv_ishl hx hb dX5_isOut_21 ?_
    refine lv_iconst (v := 1) hx hb dX5_isOut_22 (by decide) ?_
    refine lv_isub hx hb dX5_isOut_23 ?_
    refine lv_icmp_ne (tgt := 31) hx hb dX5_isOut_24 (by decide) (fun c4 => ?_) (fun c4 => ?_)
    · replace hM := sx_iff c4 hM
      refine lv_iconst (v := 0) hx hb dX5_isOut_31 (by decide) ?_
      obtain rfl := sx_o1 hM
      exact hret _ _ _ _ dX5_isOut_32 rfl (hP.sub [0, 1] rfl) (hD.sub [0, 1] (by decide) rfl) hS
    · replace hM := sx_ift c4 hM
      refine lv_iconst (v := 1) hx hb dX5_isOut_27 (by decide) ?_
      refine lv_goto (tgt := 32) hx hb dX5_isOut_28 (by decide) ?_
      obtain rfl := sx_o1 hM
      exact hret _ _ _ _ dX5_isOut_32 rfl (hP.sub [0, 1] rfl) (hD.sub [0, 1] (by decide) rfl) hS
set_option maxHeartbeats 4000000 in
set_option maxRecDepth 100000 in
theorem mtX5_isOut (l : Launch) (D : va_G) (cI cJ cS : ClassId) (sz : Nat) (m_h m_now_a m_tape_a m_read_a m_heard_a m_undone_a m_aside_a m_kept_a m_lanes_a m_sizes_a m_items_a m_moved_a : Nat) (m_now : Nat → Int32) (m_typed : Int32) (m_place : Int32) (m_isFault : Int32) (m_undos : Int32) (m_keptUndos : Int32) (m_isKept : Int32) (a1 : Int32) (F : Nat) (r0 : Int32) (hM : fnX5_isOut F m_now a1 = some r0) : sx_MI l yX5_isOut wsX5_isOut ({ frames := 3, cells := 0, slots := 0, locals := 67 }) D (sx_T cI cJ cS) sz [.ref m_h, .int a1] [(m_h, .inr (5, [.ref m_now_a, .ref m_tape_a, .int m_typed, .int m_place, .int m_isFault, .ref m_read_a, .ref m_heard_a, .ref m_undone_a, .int m_undos, .ref m_aside_a, .ref m_kept_a, .int m_keptUndos, .int m_isKept, .ref m_lanes_a, .ref m_sizes_a, .ref m_items_a, .ref m_moved_a])), (m_now_a, .inl (cI, 65, .inl m_now))] r0 [(m_h, .inr (5, [.ref m_now_a, .ref m_tape_a, .int m_typed, .int m_place, .int m_isFault, .ref m_read_a, .ref m_heard_a, .ref m_undone_a, .int m_undos, .ref m_aside_a, .ref m_kept_a, .int m_keptUndos, .int m_isKept, .ref m_lanes_a, .ref m_sizes_a, .ref m_items_a, .ref m_moved_a])), (m_now_a, .inl (cI, 65, .inl m_now))] := by
  refine Met.ofW (cc := cX5_isOut) (maxL := 2) (ret := (some .boolean)) (by decide) rfl ?_
  intro p e s m args below meth c s₁ B hml hv
  obtain ⟨rfl, hsz, hN, hP, hK, hD0⟩ := hv
  subst hsz
  have hl := lv_entry ([.ref m_h, .int a1]) (n := 2) (Nat.le_of_ble_eq_true rfl)
  rw [lg_entry_eq]
  generalize (lg_sl ([.ref m_h, .int a1]) ++ List.replicate (2 - (lg_sl ([.ref m_h, .int a1])).length) Slot.unset).toArray = ls at hl ⊢
  exact kwX5_isOut B.exec B.bytes hml (findClass_of_methodNamed B.named) (atoms_spec (ws := wsX5_isOut) B.pre) hN hK (fun q h => Or.inr h) (by decide) (by decide) ⟨Nat.zero_le _, Nat.zero_le _⟩ m_h m_now_a m_tape_a m_read_a m_heard_a m_undone_a m_aside_a m_kept_a m_lanes_a m_sizes_a m_items_a m_moved_a m_now m_typed m_place m_isFault m_undos m_keptUndos m_isKept a1 F r0 hM _ _ _ hl hP hD0.self va_S.rf (fun H1 locs1 ls1 pc1 hd hz hP hD hS => W.zret (v := r0) B.exec B.bytes B.returns hz (fun t ht hW => ⟨⟨r0, (), rfl, rfl, by rw [ht]; exact hP, hD⟩, hS.F ht⟩) hS.2.2 hd)

def bdX5_outOnes_4 (F : Nat) (m_now : Nat → Int32) (r_ : Int32 → Int32 → Option (Int32)) (x1_ : Int32) (x2_ : Int32) : Option (Int32) :=
  (if (8 : Int32) ≤ x2_ then (some (x1_)) else sx_c1 (fnX5_isOut F m_now x2_) (fun (r4 : Int32) => sx_lt (fun (y6 : Int32) => sx_nm (x1_ ||| y6) (fun (v7 : Int32) => sx_nm (x2_ + (1 : Int32)) (fun (v8 : Int32) => (r_ v7 v8)))) (fun (k_26 : Int32 → Option (Int32)) => (if r4 = 0 then (k_26 (0 : Int32)) else (k_26 ((1 : Int32) <<< (x2_ &&& 31)))))))
def fnX5_outOnes (F : Nat) (m_now : Nat → Int32) : Option (Int32) :=
  sx_lp2 (bdX5_outOnes_4 F m_now) F (0 : Int32) (0 : Int32)
set_option maxHeartbeats 4000000 in
set_option maxRecDepth 100000 in
theorem kwX5_outOnes {p : Program} {l : Launch} {e : Env} {R : Room} {s : State} {m : MethodId} {args : Array Value} {below : List Frame} {meth : Method} {c : Code} {cells slots : Nat} {Q : State → Prop} {A : Nat → Prop} {H0 : Heap} {D : va_G} {cI cJ cS : ClassId} (hx : p.tables.exec = Jvm.exec) (hb : c.code = cX5_outOnes) (hml : c.maxLocals = 3) (hown : s.vm.findClass RX5 = some m.cls) (hts : ∀ w ∈ wsX5_outOnes, w.before args s = true) (hN : sx_N s) (hK : va_K D vwCl (sx_T cI cJ cS) s) (hA : ∀ q, H0.size ≤ q → A q) (hRf : 4 ≤ R.frames) (hRl : 88 ≤ R.locals) (hRc : cells ≤ R.cells ∧ slots ≤ R.slots) (m_h m_now_a m_tape_a m_read_a m_heard_a m_undone_a m_aside_a m_kept_a m_lanes_a m_sizes_a m_items_a m_moved_a : Nat) (m_now : Nat → Int32) (m_typed : Int32) (m_place : Int32) (m_isFault : Int32) (m_undos : Int32) (m_keptUndos : Int32) (m_isKept : Int32) (F : Nat) (r0 : Int32) (hM : fnX5_outOnes F m_now = some r0) (H : Heap) (locs : List Loc) (ls : Array Slot) (hl : lv_has ls 3 [(0, .ref m_h)]) (hP : va_P D vwCl [(m_h, .inr (5, [.ref m_now_a, .ref m_tape_a, .int m_typed, .int m_place, .int m_isFault, .ref m_read_a, .ref m_heard_a, .ref m_undone_a, .int m_undos, .ref m_aside_a, .ref m_kept_a, .int m_keptUndos, .int m_isKept, .ref m_lanes_a, .ref m_sizes_a, .ref m_items_a, .ref m_moved_a])), (m_now_a, .inl (cI, 65, .inl m_now))] H) (hD : va_D A [(m_h, .inr (5, [.ref m_now_a, .ref m_tape_a, .int m_typed, .int m_place, .int m_isFault, .ref m_read_a, .ref m_heard_a, .ref m_undone_a, .int m_undos, .ref m_aside_a, .ref m_kept_a, .int m_keptUndos, .int m_isKept, .ref m_lanes_a, .ref m_sizes_a, .ref m_items_a, .ref m_moved_a])), (m_now_a, .inl (cI, 65, .inl m_now))]) (hS : va_S A H0 H locs)
    (hret : ∀ (H1 : Heap) (locs1 : List Loc) (ls1 : Array Slot) (pc1 : Nat), decode cX5_outOnes pc1 = .ok (.ireturn, 1) → va_P D vwCl [(m_h, .inr (5, [.ref m_now_a, .ref m_tape_a, .int m_typed, .int m_place, .int m_isFault, .ref m_read_a, .ref m_heard_a, .ref m_undone_a, .int m_undos, .ref m_aside_a, .ref m_kept_a, .int m_keptUndos, .int m_isKept, .ref m_lanes_a, .ref m_sizes_a, .ref m_items_a, .ref m_moved_a])), (m_now_a, .inl (cI, 65, .inl m_now))] H1 → va_D A [(m_h, .inr (5, [.ref m_now_a, .ref m_tape_a, .int m_typed, .int m_place, .int m_isFault, .ref m_read_a, .ref m_heard_a, .ref m_undone_a, .int m_undos, .ref m_aside_a, .ref m_kept_a, .int m_keptUndos, .int m_isKept, .ref m_lanes_a, .ref m_sizes_a, .ref m_items_a, .ref m_moved_a])), (m_now_a, .inl (cI, 65, .inl m_now))] → va_S A H0 H1 locs1 → W p l e R s m args below meth c H1 locs1 cells slots Q (F0 m pc1 ls1 [.int r0])) : W p l e R s m args below meth c H locs cells slots Q (F0 m 0 ls []) := by
  unfold fnX5_outOnes at hM
  refine lv_iconst (v := 0) hx hb dX5_outOnes_0 (by decide) ?_
  refine lv_istore_n (lv' := [(1, .int (0 : Int32)), (0, .ref m_h)]) hx hb dX5_outOnes_1 rfl hl (by decide) rfl (fun ls hl => ?_)
  refine lv_iconst (v := 0) hx hb dX5_outOnes_2 (by decide) ?_
  refine lv_istore_n (lv' := [(2, .int (0 : Int32)), (1, .int (0 : Int32)), (0, .ref m_h)]) hx hb dX5_outOnes_3 rfl hl (by decide) rfl (fun ls hl => ?_)
  have lp_4 : ∀ (n : Nat) (x1 : Int32) (x2 : Int32) (H : Heap) (locs : List Loc) (ls : Array Slot), sx_lp2 (bdX5_outOnes_4 F m_now) n x1 x2 = some r0 → lv_has ls 3 [(0, .ref m_h), (1, .int x1), (2, .int x2)] → va_P D vwCl [(m_h, .inr (5, [.ref m_now_a, .ref m_tape_a, .int m_typed, .int m_place, .int m_isFault, .ref m_read_a, .ref m_heard_a, .ref m_undone_a, .int m_undos, .ref m_aside_a, .ref m_kept_a, .int m_keptUndos, .int m_isKept, .ref m_lanes_a, .ref m_sizes_a, .ref m_items_a, .ref m_moved_a])), (m_now_a, .inl (cI, 65, .inl m_now))] H → va_D A [(m_h, .inr (5, [.ref m_now_a, .ref m_tape_a, .int m_typed, .int m_place, .int m_isFault, .ref m_read_a, .ref m_heard_a, .ref m_undone_a, .int m_undos, .ref m_aside_a, .ref m_kept_a, .int m_keptUndos, .int m_isKept, .ref m_lanes_a, .ref m_sizes_a, .ref m_items_a, .ref m_moved_a])), (m_now_a, .inl (cI, 65, .inl m_now))] → va_S A H0 H locs → W p l e R s m args below meth c H locs cells slots Q (F0 m 4 ls ([])) := by
    intro n
    induction n with
    | zero => intro x1 x2 H locs ls hM; exact (sx_lp2_0 hM).elim
    | succ n ih =>
      intro x1 x2 H locs ls hM hl hP hD hS
      have hM : bdX5_outOnes_4 F m_now (sx_lp2 (bdX5_outOnes_4 F m_now) n) x1 x2 = some r0 := hM
      generalize sx_lp2 (bdX5_outOnes_4 F m_now) n = r_4 at hM ih
      unfold bdX5_outOnes_4 at hM
      refine lv_iload_n hx hb dX5_outOnes_4 rfl (lv_at hl 2 rfl) ?_
      refine lv_bipush (v := 8) hx hb dX5_outOnes_5 (by decide) ?_
      refine lv_icmp_ge (tgt := 34) hx hb dX5_outOnes_7 (by decide) (fun c3 => ?_) (fun c3 => ?_)
      · replace hM := sx_ift c3 hM
        refine lv_iload_n hx hb dX5_outOnes_34 rfl (lv_at hl 1 rfl) ?_
        obtain rfl := sx_o1 hM
        exact hret _ _ _ _ dX5_outOnes_35 (hP.sub [0, 1] rfl) (hD.sub [0, 1] (by decide) rfl) hS
      · replace hM := sx_iff c3 hM
        refine lv_iload_n hx hb dX5_outOnes_10 rfl (lv_at hl 1 rfl) ?_
        refine lv_aload_n hx hb dX5_outOnes_11 rfl (lv_at hl 0 rfl) ?_
        refine lv_iload_n hx hb dX5_outOnes_12 rfl (lv_at hl 2 rfl) ?_
        obtain ⟨r4, hc5, hM⟩ := sx_c1_s hM
        refine sx_iV (As := [.int x2]) (rest := [.int x1]) (wc := [(m_h, .inr (5, [.ref m_now_a, .ref m_tape_a, .int m_typed, .int m_place, .int m_isFault, .ref m_read_a, .ref m_heard_a, .ref m_undone_a, .int m_undos, .ref m_aside_a, .ref m_kept_a, .int m_keptUndos, .int m_isKept, .ref m_lanes_a, .ref m_sizes_a, .ref m_items_a, .ref m_moved_a])), (m_now_a, .inl (cI, 65, .inl m_now))]) (wr := []) (w1 := [(m_h, .inr (5, [.ref m_now_a, .ref m_tape_a, .int m_typed, .int m_place, .int m_isFault, .ref m_read_a, .ref m_heard_a, .ref m_undone_a, .int m_undos, .ref m_aside_a, .ref m_kept_a, .int m_keptUndos, .int m_isKept, .ref m_lanes_a, .ref m_sizes_a, .ref m_items_a, .ref m_moved_a])), (m_now_a, .inl (cI, 65, .inl m_now))]) ⟨hx, hb, hml, hown, hts⟩ (mtX5_isOut l D cI cJ cS H.size m_h m_now_a m_tape_a m_read_a m_heard_a m_undone_a m_aside_a m_kept_a m_lanes_a m_sizes_a m_items_a m_moved_a m_now m_typed m_place m_isFault m_undos m_keptUndos m_isKept x2 F r4 hc5) (cwV 1 hts gX5_outOnes_X5_isOut rfl rfl rfl (by decide +kernel) ⟨Nat.le_trans (by decide) hRf, Nat.le_trans (by decide) hRl⟩) hK hN hP hD hS hA [0, 1] [] rfl (by decide) rfl (by decide) (by decide) rfl rfl rfl rfl hl.1 rfl (Nat.le_of_ble_eq_true rfl) dX5_outOnes_13 hRc (fun H locs hP hD hS => ?_)
        have hP : va_P D vwCl [(m_h, .inr (5, [.ref m_now_a, .ref m_tape_a, .int m_typed, .int m_place, .int m_isFault, .ref m_read_a, .ref m_heard_a, .ref m_undone_a, .int m_undos, .ref m_aside_a, .ref m_kept_a, .int m_keptUndos, .int m_isKept, .ref m_lanes_a, .ref m_sizes_a, .ref m_items_a, .ref m_moved_a])), (m_now_a, .inl (cI, 65, .inl m_now))] H := hP
        have hD : va_D A [(m_h, .inr (5, [.ref m_now_a, .ref m_tape_a, .int m_typed, .int m_place, .int m_isFault, .ref m_read_a, .ref m_heard_a, .ref m_undone_a, .int m_undos, .ref m_aside_a, .ref m_kept_a, .int m_keptUndos, .int m_isKept, .ref m_lanes_a, .ref m_sizes_a, .ref m_items_a, .ref m_moved_a])), (m_now_a, .inl (cI, 65, .inl m_now))] := hD
        obtain ⟨k_26, ek_26, hM⟩ := sx_lt_s hM
        have hk_26 : ∀ (y6 : Int32) (H : Heap) (locs : List Loc) (ls : Array Slot), k_26 y6 = some r0 → lv_has ls 3 [(0, .ref m_h), (2, .int x2)] → va_P D vwCl [(m_h, .inr (5, [.ref m_now_a, .ref m_tape_a, .int m_typed, .int m_place, .int m_isFault, .ref m_read_a, .ref m_heard_a, .ref m_undone_a, .int m_undos, .ref m_aside_a, .ref m_kept_a, .int m_keptUndos, .int m_isKept, .ref m_lanes_a, .ref m_sizes_a, .ref m_items_a, .ref m_moved_a])), (m_now_a, .inl (cI, 65, .inl m_now))] H → va_D A [(m_h, .inr (5, [.ref m_now_a, .ref m_tape_a, .int m_typed, .int m_place, .int m_isFault, .ref m_read_a, .ref m_heard_a, .ref m_undone_a, .int m_undos, .ref m_aside_a, .ref m_kept_a, .int m_keptUndos, .int m_isKept, .ref m_lanes_a, .ref m_sizes_a, .ref m_items_a, .ref m_moved_a])), (m_now_a, .inl (cI, 65, .inl m_now))] → va_S A H0 H locs → W p l e R s m args below meth c H locs cells slots Q (F0 m 26 ls (.int y6 :: .int x1 :: [])) := by
          intro y6 H locs ls hM hl hP hD hS
          rw [ek_26] at hM
          refine lv_ior hx hb dX5_outOnes_26 ?_
          obtain ⟨v7, ev7, hM⟩ := sx_nm_s hM
          refine W.eq (g2 := F0 m 27 ls (.int v7 :: [])) (by subst ev7; rfl) ?_
          refine lv_istore_n (lv' := [(1, .int v7), (0, .ref m_h), (2, .int x2)]) hx hb dX5_outOnes_27 rfl hl (by decide) rfl (fun ls hl => ?_)
          obtain ⟨v8, ev8, hM⟩ := sx_nm_s hM
          refine lv_iinc (v := v8) (lv' := [(2, .int v8), (1, .int v7), (0, .ref m_h)]) hx hb dX5_outOnes_28 hl (k := 2) rfl (by rw [ev8]; rfl) (by decide) rfl (fun ls hl => ?_)
          refine lv_goto (tgt := 4) hx hb dX5_outOnes_31 (by decide) ?_
          exact ih v7 v8 _ _ _ hM (lv_sub hl [2, 1, 0] rfl) (hP.sub [0, 1] rfl) (hD.sub [0, 1] (by decide) rfl) hS
        refine lv_if_eq (tgt := 25) hx hb dX5_outOnes_16 (by decide) (fun c9 => ?_) (fun c9 => ?_)
        · replace hM := sx_ift c9 hM
          refine lv_iconst (v := 0) hx hb dX5_outOnes_25 (by decide) ?_
          exact hk_26 (0 : Int32) _ _ _ hM (lv_sub hl [0, 2] rfl) (hP.sub [0, 1] rfl) (hD.sub [0, 1] (by decide) rfl) hS
        · replace hM := sx_iff c9 hM
          refine lv_iconst (v := 1) hx hb dX5_outOnes_19 (by decide) ?_
          refine lv_iload_n hx hb dX5_outOnes_20 rfl (lv_at hl 2 rfl) ?_
          refine lv_ishl hx hb dX5_outOnes_21 ?_
          refine lv_goto (tgt := 26) hx hb dX5_outOnes_22 (by decide) ?_
          exact hk_26 ((1 : Int32) <<< (x2 &&& 31)) _ _ _ hM (lv_sub hl [0, 2] rfl) (hP.sub [0, 1] rfl) (hD.sub [0, 1] (by decide) rfl) hS
  exact lp_4 F (0 : Int32) (0 : Int32) _ _ _ hM (lv_sub hl [2, 1, 0] rfl) (hP.sub [0, 1] rfl) (hD.sub [0, 1] (by decide) rfl) hS
set_option maxHeartbeats 4000000 in
set_option maxRecDepth 100000 in
theorem mtX5_outOnes (l : Launch) (D : va_G) (cI cJ cS : ClassId) (sz : Nat) (m_h m_now_a m_tape_a m_read_a m_heard_a m_undone_a m_aside_a m_kept_a m_lanes_a m_sizes_a m_items_a m_moved_a : Nat) (m_now : Nat → Int32) (m_typed : Int32) (m_place : Int32) (m_isFault : Int32) (m_undos : Int32) (m_keptUndos : Int32) (m_isKept : Int32) (F : Nat) (r0 : Int32) (hM : fnX5_outOnes F m_now = some r0) : sx_MI l yX5_outOnes wsX5_outOnes ({ frames := 4, cells := 0, slots := 0, locals := 88 }) D (sx_T cI cJ cS) sz [.ref m_h] [(m_h, .inr (5, [.ref m_now_a, .ref m_tape_a, .int m_typed, .int m_place, .int m_isFault, .ref m_read_a, .ref m_heard_a, .ref m_undone_a, .int m_undos, .ref m_aside_a, .ref m_kept_a, .int m_keptUndos, .int m_isKept, .ref m_lanes_a, .ref m_sizes_a, .ref m_items_a, .ref m_moved_a])), (m_now_a, .inl (cI, 65, .inl m_now))] r0 [(m_h, .inr (5, [.ref m_now_a, .ref m_tape_a, .int m_typed, .int m_place, .int m_isFault, .ref m_read_a, .ref m_heard_a, .ref m_undone_a, .int m_undos, .ref m_aside_a, .ref m_kept_a, .int m_keptUndos, .int m_isKept, .ref m_lanes_a, .ref m_sizes_a, .ref m_items_a, .ref m_moved_a])), (m_now_a, .inl (cI, 65, .inl m_now))] := by
  refine Met.ofW (cc := cX5_outOnes) (maxL := 3) (ret := (some .int)) (by decide) rfl ?_
  intro p e s m args below meth c s₁ B hml hv
  obtain ⟨rfl, hsz, hN, hP, hK, hD0⟩ := hv
  subst hsz
  have hl := lv_entry ([.ref m_h]) (n := 3) (Nat.le_of_ble_eq_true rfl)
  rw [lg_entry_eq]
  generalize (lg_sl ([.ref m_h]) ++ List.replicate (3 - (lg_sl ([.ref m_h])).length) Slot.unset).toArray = ls at hl ⊢
  exact kwX5_outOnes B.exec B.bytes hml (findClass_of_methodNamed B.named) (atoms_spec (ws := wsX5_outOnes) B.pre) hN hK (fun q h => Or.inr h) (by decide) (by decide) ⟨Nat.zero_le _, Nat.zero_le _⟩ m_h m_now_a m_tape_a m_read_a m_heard_a m_undone_a m_aside_a m_kept_a m_lanes_a m_sizes_a m_items_a m_moved_a m_now m_typed m_place m_isFault m_undos m_keptUndos m_isKept F r0 hM _ _ _ hl hP hD0.self va_S.rf (fun H1 locs1 ls1 pc1 hd hP hD hS => W.iret (v := r0) B.exec B.bytes B.returns (fun t ht hW => ⟨⟨r0, (), rfl, rfl, by rw [ht]; exact hP, hD⟩, hS.F ht⟩) hS.2.2 hd)

def bdX5_comes_28 (F : Nat) (x2_ : Int32) (kf_55 : (Nat → Int32) → Option ((Nat → Int32) × Int32)) (r_ : Int32 → (Nat → Int32) → Option ((Nat → Int32) × Int32)) (x3_ : Int32) (m_now : Nat → Int32) : Option ((Nat → Int32) × Int32) :=
  (if (8 : Int32) ≤ x3_ then (kf_55 m_now) else sx_gd (sx_ib (((17 : Int32) + ((8 : Int32) * x2_)) + x3_) 65) (sx_nm (x3_ + (1 : Int32)) (fun (v9 : Int32) => (r_ v9 (upd m_now ((((17 : Int32) + ((8 : Int32) * x2_)) + x3_)).toNatClampNeg (-1 : Int32))))))
def fnX5_comes (F : Nat) (m_now : Nat → Int32) (m_undos : Int32) (a1 : Int32) : Option ((Nat → Int32) × Int32) :=
  sx_nm (m_now ((0 : Int32)).toNatClampNeg) (fun (v1 : Int32) => sx_gd (sx_ib ((5 : Int32) + v1) 65) (sx_gd (sx_ib ((11 : Int32) + v1) 65) (sx_lt (fun (z4 : Nat → Int32) => (some ((upd z4 ((0 : Int32)).toNatClampNeg ((z4 ((0 : Int32)).toNatClampNeg) + (1 : Int32))), (0 : Int32)))) (fun (k_55 : (Nat → Int32) → Option ((Nat → Int32) × Int32)) => sx_lp2 (bdX5_comes_28 F v1 k_55) F (0 : Int32) (upd (upd m_now (((5 : Int32) + v1)).toNatClampNeg a1) (((11 : Int32) + v1)).toNatClampNeg v1)))))
set_option maxHeartbeats 4000000 in
set_option maxRecDepth 100000 in
theorem kwX5_comes {p : Program} {l : Launch} {e : Env} {R : Room} {s : State} {m : MethodId} {args : Array Value} {below : List Frame} {meth : Method} {c : Code} {cells slots : Nat} {Q : State → Prop} {A : Nat → Prop} {H0 : Heap} {D : va_G} {cI cJ cS : ClassId} (hx : p.tables.exec = Jvm.exec) (hb : c.code = cX5_comes) (hml : c.maxLocals = 4) (hown : s.vm.findClass RX5 = some m.cls) (hts : ∀ w ∈ wsX5_comes, w.before args s = true) (hN : sx_N s) (hK : va_K D vwCl (sx_T cI cJ cS) s) (hA : ∀ q, H0.size ≤ q → A q) (hRf : 0 ≤ R.frames) (hRl : 0 ≤ R.locals) (hRc : cells ≤ R.cells ∧ slots ≤ R.slots) (m_h m_now_a m_tape_a m_read_a m_heard_a m_undone_a m_aside_a m_kept_a m_lanes_a m_sizes_a m_items_a m_moved_a : Nat) (m_now : Nat → Int32) (m_typed : Int32) (m_place : Int32) (m_isFault : Int32) (m_undos : Int32) (m_keptUndos : Int32) (m_isKept : Int32) (a1 : Int32) (F : Nat) (w_m_now : Nat → Int32) (w_m_undos : Int32) (hM : fnX5_comes F m_now m_undos a1 = some (w_m_now, w_m_undos)) (H : Heap) (locs : List Loc) (ls : Array Slot) (hl : lv_has ls 4 [(0, .ref m_h), (1, .int a1)]) (hP : va_P D vwCl [(m_h, .inr (5, [.ref m_now_a, .ref m_tape_a, .int m_typed, .int m_place, .int m_isFault, .ref m_read_a, .ref m_heard_a, .ref m_undone_a, .int m_undos, .ref m_aside_a, .ref m_kept_a, .int m_keptUndos, .int m_isKept, .ref m_lanes_a, .ref m_sizes_a, .ref m_items_a, .ref m_moved_a])), (m_now_a, .inl (cI, 65, .inl m_now))] H) (hD : va_D A [(m_h, .inr (5, [.ref m_now_a, .ref m_tape_a, .int m_typed, .int m_place, .int m_isFault, .ref m_read_a, .ref m_heard_a, .ref m_undone_a, .int m_undos, .ref m_aside_a, .ref m_kept_a, .int m_keptUndos, .int m_isKept, .ref m_lanes_a, .ref m_sizes_a, .ref m_items_a, .ref m_moved_a])), (m_now_a, .inl (cI, 65, .inl m_now))]) (hS : va_S A H0 H locs)
    (hret : ∀ (H1 : Heap) (locs1 : List Loc) (ls1 : Array Slot) (pc1 : Nat), decode cX5_comes pc1 = .ok (.return_, 1) → va_P D vwCl [(m_h, .inr (5, [.ref m_now_a, .ref m_tape_a, .int m_typed, .int m_place, .int m_isFault, .ref m_read_a, .ref m_heard_a, .ref m_undone_a, .int w_m_undos, .ref m_aside_a, .ref m_kept_a, .int m_keptUndos, .int m_isKept, .ref m_lanes_a, .ref m_sizes_a, .ref m_items_a, .ref m_moved_a])), (m_now_a, .inl (cI, 65, .inl w_m_now))] H1 → va_D A [(m_h, .inr (5, [.ref m_now_a, .ref m_tape_a, .int m_typed, .int m_place, .int m_isFault, .ref m_read_a, .ref m_heard_a, .ref m_undone_a, .int w_m_undos, .ref m_aside_a, .ref m_kept_a, .int m_keptUndos, .int m_isKept, .ref m_lanes_a, .ref m_sizes_a, .ref m_items_a, .ref m_moved_a])), (m_now_a, .inl (cI, 65, .inl w_m_now))] → va_S A H0 H1 locs1 → W p l e R s m args below meth c H1 locs1 cells slots Q (F0 m pc1 ls1 [])) : W p l e R s m args below meth c H locs cells slots Q (F0 m 0 ls []) := by
  have hf_7 := hts (.fieldLink RX5 7 "SealedLipsModel" "now" "[I") (by decide +kernel)
  have hf_77 := hts (.fieldLink RX5 77 "SealedLipsModel" "undos" "I") (by decide +kernel)
  have hin_X5 : ∀ w ∈ wsX50, w ∈ wsX5_comes := by decide +kernel
  unfold fnX5_comes at hM
  refine lv_aload_n hx hb dX5_comes_0 rfl (lv_at hl 0 rfl) ?_
  refine va_get (D := D) (ci := 5) (v := .ref m_now_a) (C := RX5) (T := TX5) (N := 17) hx hb hts hin_X5 hown hK hP 0 rfl rfl 0 (by decide) hf_7 (fun _ h9 => h9) rfl dX5_comes_1 ?_
  refine lv_iconst (v := 0) hx hb dX5_comes_4 (by decide) ?_
  refine va_iald hx hb hK hP 1 0 rfl rfl (sx_ib_s (by decide)) dX5_comes_5 ?_
  obtain ⟨v1, ev1, hM⟩ := sx_nm_s hM
  refine W.eq (g2 := F0 m 6 ls (.int v1 :: [])) (by subst ev1; rfl) ?_
  refine lv_istore_n (lv' := [(2, .int v1), (0, .ref m_h), (1, .int a1)]) hx hb dX5_comes_6 rfl hl (by decide) rfl (fun ls hl => ?_)
  refine lv_aload_n hx hb dX5_comes_7 rfl (lv_at hl 1 rfl) ?_
  refine va_get (D := D) (ci := 5) (v := .ref m_now_a) (C := RX5) (T := TX5) (N := 17) hx hb hts hin_X5 hown hK hP 0 rfl rfl 0 (by decide) hf_7 (fun _ h9 => h9) rfl dX5_comes_8 ?_
  refine lv_iconst (v := 5) hx hb dX5_comes_11 (by decide) ?_
  refine lv_iload_n hx hb dX5_comes_12 rfl (lv_at hl 0 rfl) ?_
  refine lv_iadd hx hb dX5_comes_13 ?_
  refine lv_iload_n hx hb dX5_comes_14 rfl (lv_at hl 2 rfl) ?_
  obtain ⟨g2, hM⟩ := sx_gd_s hM
  refine va_iast hx hb hK hP hD hS 1 0 rfl rfl (sx_ib_s g2) dX5_comes_15 (fun H locs hP hD hS => ?_)
  have hP : va_P D vwCl [(m_h, .inr (5, [.ref m_now_a, .ref m_tape_a, .int m_typed, .int m_place, .int m_isFault, .ref m_read_a, .ref m_heard_a, .ref m_undone_a, .int m_undos, .ref m_aside_a, .ref m_kept_a, .int m_keptUndos, .int m_isKept, .ref m_lanes_a, .ref m_sizes_a, .ref m_items_a, .ref m_moved_a])), (m_now_a, .inl (cI, 65, .inl (upd m_now (((5 : Int32) + v1)).toNatClampNeg a1)))] H := hP
  have hD : va_D A [(m_h, .inr (5, [.ref m_now_a, .ref m_tape_a, .int m_typed, .int m_place, .int m_isFault, .ref m_read_a, .ref m_heard_a, .ref m_undone_a, .int m_undos, .ref m_aside_a, .ref m_kept_a, .int m_keptUndos, .int m_isKept, .ref m_lanes_a, .ref m_sizes_a, .ref m_items_a, .ref m_moved_a])), (m_now_a, .inl (cI, 65, .inl (upd m_now (((5 : Int32) + v1)).toNatClampNeg a1)))] := hD
  refine lv_aload_n hx hb dX5_comes_16 rfl (lv_at hl 1 rfl) ?_
  refine va_get (D := D) (ci := 5) (v := .ref m_now_a) (C := RX5) (T := TX5) (N := 17) hx hb hts hin_X5 hown hK hP 0 rfl rfl 0 (by decide) hf_7 (fun _ h9 => h9) rfl dX5_comes_17 ?_
  refine lv_bipush (v := 11) hx hb dX5_comes_20 (by decide) ?_
  refine lv_iload_n hx hb dX5_comes_22 rfl (lv_at hl 0 rfl) ?_
  refine lv_iadd hx hb dX5_comes_23 ?_
  refine lv_iload_n hx hb dX5_comes_24 rfl (lv_at hl 0 rfl) ?_
  obtain ⟨g3, hM⟩ := sx_gd_s hM
  refine va_iast hx hb hK hP hD hS 1 0 rfl rfl (sx_ib_s g3) dX5_comes_25 (fun H locs hP hD hS => ?_)
  have hP : va_P D vwCl [(m_h, .inr (5, [.ref m_now_a, .ref m_tape_a, .int m_typed, .int m_place, .int m_isFault, .ref m_read_a, .ref m_heard_a, .ref m_undone_a, .int m_undos, .ref m_aside_a, .ref m_kept_a, .int m_keptUndos, .int m_isKept, .ref m_lanes_a, .ref m_sizes_a, .ref m_items_a, .ref m_moved_a])), (m_now_a, .inl (cI, 65, .inl (upd (upd m_now (((5 : Int32) + v1)).toNatClampNeg a1) (((11 : Int32) + v1)).toNatClampNeg v1)))] H := hP
  have hD : va_D A [(m_h, .inr (5, [.ref m_now_a, .ref m_tape_a, .int m_typed, .int m_place, .int m_isFault, .ref m_read_a, .ref m_heard_a, .ref m_undone_a, .int m_undos, .ref m_aside_a, .ref m_kept_a, .int m_keptUndos, .int m_isKept, .ref m_lanes_a, .ref m_sizes_a, .ref m_items_a, .ref m_moved_a])), (m_now_a, .inl (cI, 65, .inl (upd (upd m_now (((5 : Int32) + v1)).toNatClampNeg a1) (((11 : Int32) + v1)).toNatClampNeg v1)))] := hD
  refine lv_iconst (v := 0) hx hb dX5_comes_26 (by decide) ?_
  refine lv_istore_n (lv' := [(3, .int (0 : Int32)), (2, .int v1), (0, .ref m_h), (1, .int a1)]) hx hb dX5_comes_27 rfl hl (by decide) rfl (fun ls hl => ?_)
  obtain ⟨k_55, ek_55, hM⟩ := sx_lt_s hM
  have hk_55 : ∀ (z4 : Nat → Int32) (H : Heap) (locs : List Loc) (ls : Array Slot), k_55 z4 = some (w_m_now, w_m_undos) → lv_has ls 4 [(0, .ref m_h)] → va_P D vwCl [(m_h, .inr (5, [.ref m_now_a, .ref m_tape_a, .int m_typed, .int m_place, .int m_isFault, .ref m_read_a, .ref m_heard_a, .ref m_undone_a, .int m_undos, .ref m_aside_a, .ref m_kept_a, .int m_keptUndos, .int m_isKept, .ref m_lanes_a, .ref m_sizes_a, .ref m_items_a, .ref m_moved_a])), (m_now_a, .inl (cI, 65, .inl z4))] H → va_D A [(m_h, .inr (5, [.ref m_now_a, .ref m_tape_a, .int m_typed, .int m_place, .int m_isFault, .ref m_read_a, .ref m_heard_a, .ref m_undone_a, .int m_undos, .ref m_aside_a, .ref m_kept_a, .int m_keptUndos, .int m_isKept, .ref m_lanes_a, .ref m_sizes_a, .ref m_items_a, .ref m_moved_a])), (m_now_a, .inl (cI, 65, .inl z4))] → va_S A H0 H locs → W p l e R s m args below meth c H locs cells slots Q (F0 m 55 ls ([])) := by
    intro z4 H locs ls hM hl hP hD hS
    rw [ek_55] at hM
    refine lv_aload_n hx hb dX5_comes_55 rfl (lv_at hl 0 rfl) ?_
    refine va_get (D := D) (ci := 5) (v := .ref m_now_a) (C := RX5) (T := TX5) (N := 17) hx hb hts hin_X5 hown hK hP 0 rfl rfl 0 (by decide) hf_7 (fun _ h9 => h9) rfl dX5_comes_56 ?_
    refine lv_iconst (v := 0) hx hb dX5_comes_59 (by decide) ?_
    refine lv_dup2_11 hx hb dX5_comes_60 rfl rfl ?_
    refine va_iald hx hb hK hP 1 0 rfl rfl (sx_ib_s (by decide)) dX5_comes_61 ?_
    refine lv_iconst (v := 1) hx hb dX5_comes_62 (by decide) ?_
    refine lv_iadd hx hb dX5_comes_63 ?_
    refine va_iast hx hb hK hP hD hS 1 0 rfl rfl (sx_ib_s (by decide)) dX5_comes_64 (fun H locs hP hD hS => ?_)
    have hP : va_P D vwCl [(m_h, .inr (5, [.ref m_now_a, .ref m_tape_a, .int m_typed, .int m_place, .int m_isFault, .ref m_read_a, .ref m_heard_a, .ref m_undone_a, .int m_undos, .ref m_aside_a, .ref m_kept_a, .int m_keptUndos, .int m_isKept, .ref m_lanes_a, .ref m_sizes_a, .ref m_items_a, .ref m_moved_a])), (m_now_a, .inl (cI, 65, .inl (upd z4 ((0 : Int32)).toNatClampNeg ((z4 ((0 : Int32)).toNatClampNeg) + (1 : Int32)))))] H := hP
    have hD : va_D A [(m_h, .inr (5, [.ref m_now_a, .ref m_tape_a, .int m_typed, .int m_place, .int m_isFault, .ref m_read_a, .ref m_heard_a, .ref m_undone_a, .int m_undos, .ref m_aside_a, .ref m_kept_a, .int m_keptUndos, .int m_isKept, .ref m_lanes_a, .ref m_sizes_a, .ref m_items_a, .ref m_moved_a])), (m_now_a, .inl (cI, 65, .inl (upd z4 ((0 : Int32)).toNatClampNeg ((z4 ((0 : Int32)).toNatClampNeg) + (1 : Int32)))))] := hD
    refine lv_aload_n hx hb dX5_comes_65 rfl (lv_at hl 0 rfl) ?_
    refine lv_iconst (v := 0) hx hb dX5_comes_66 (by decide) ?_
    refine va_put (D := D) (ci := 5) (v := .int (0 : Int32)) (ty := .int) (C := RX5) (T := TX5) (N := 17) hx hb hts hin_X5 tyX5 tyX5_ok nmX5 hown hK hP hD hS 0 rfl rfl 8 (by decide) hf_77 (fun _ h9 => h9) rfl (tyX5_ok 8 (by decide)) rfl rfl (Nat.le_of_ble_eq_true rfl) dX5_comes_67 (fun H locs hP hD hS => ?_)
    have hP : va_P D vwCl [(m_h, .inr (5, [.ref m_now_a, .ref m_tape_a, .int m_typed, .int m_place, .int m_isFault, .ref m_read_a, .ref m_heard_a, .ref m_undone_a, .int (0 : Int32), .ref m_aside_a, .ref m_kept_a, .int m_keptUndos, .int m_isKept, .ref m_lanes_a, .ref m_sizes_a, .ref m_items_a, .ref m_moved_a])), (m_now_a, .inl (cI, 65, .inl (upd z4 ((0 : Int32)).toNatClampNeg ((z4 ((0 : Int32)).toNatClampNeg) + (1 : Int32)))))] H := hP
    have hD : va_D A [(m_h, .inr (5, [.ref m_now_a, .ref m_tape_a, .int m_typed, .int m_place, .int m_isFault, .ref m_read_a, .ref m_heard_a, .ref m_undone_a, .int (0 : Int32), .ref m_aside_a, .ref m_kept_a, .int m_keptUndos, .int m_isKept, .ref m_lanes_a, .ref m_sizes_a, .ref m_items_a, .ref m_moved_a])), (m_now_a, .inl (cI, 65, .inl (upd z4 ((0 : Int32)).toNatClampNeg ((z4 ((0 : Int32)).toNatClampNeg) + (1 : Int32)))))] := hD
    obtain ⟨rfl, rfl⟩ := sx_o2 hM
    exact hret _ _ _ _ dX5_comes_70 (hP.sub [0, 1] rfl) (hD.sub [0, 1] (by decide) rfl) hS
  have lp_28 : ∀ (n : Nat) (x5 : Int32) (z6 : Nat → Int32) (H : Heap) (locs : List Loc) (ls : Array Slot), sx_lp2 (bdX5_comes_28 F v1 k_55) n x5 z6 = some (w_m_now, w_m_undos) → lv_has ls 4 [(0, .ref m_h), (2, .int v1), (3, .int x5)] → va_P D vwCl [(m_h, .inr (5, [.ref m_now_a, .ref m_tape_a, .int m_typed, .int m_place, .int m_isFault, .ref m_read_a, .ref m_heard_a, .ref m_undone_a, .int m_undos, .ref m_aside_a, .ref m_kept_a, .int m_keptUndos, .int m_isKept, .ref m_lanes_a, .ref m_sizes_a, .ref m_items_a, .ref m_moved_a])), (m_now_a, .inl (cI, 65, .inl z6))] H → va_D A [(m_h, .inr (5, [.ref m_now_a, .ref m_tape_a, .int m_typed, .int m_place, .int m_isFault, .ref m_read_a, .ref m_heard_a, .ref m_undone_a, .int m_undos, .ref m_aside_a, .ref m_kept_a, .int m_keptUndos, .int m_isKept, .ref m_lanes_a, .ref m_sizes_a, .ref m_items_a, .ref m_moved_a])), (m_now_a, .inl (cI, 65, .inl z6))] → va_S A H0 H locs → W p l e R s m args below meth c H locs cells slots Q (F0 m 28 ls ([])) := by
    intro n
    induction n with
    | zero => intro x5 z6 H locs ls hM; exact (sx_lp2_0 hM).elim
    | succ n ih =>
      intro x5 z6 H locs ls hM hl hP hD hS
      have hM : bdX5_comes_28 F v1 k_55 (sx_lp2 (bdX5_comes_28 F v1 k_55) n) x5 z6 = some (w_m_now, w_m_undos) := hM
      generalize sx_lp2 (bdX5_comes_28 F v1 k_55) n = r_28 at hM ih
      unfold bdX5_comes_28 at hM
      refine lv_iload_n hx hb dX5_comes_28 rfl (lv_at hl 2 rfl) ?_
      refine lv_bipush (v := 8) hx hb dX5_comes_29 (by decide) ?_
      refine lv_icmp_ge (tgt := 55) hx hb dX5_comes_31 (by decide) (fun c7 => ?_) (fun c7 => ?_)
      · replace hM := sx_ift c7 hM
        exact hk_55 z6 _ _ _ hM (lv_sub hl [0] rfl) (hP.sub [0, 1] rfl) (hD.sub [0, 1] (by decide) rfl) hS
      · replace hM := sx_iff c7 hM
        refine lv_aload_n hx hb dX5_comes_34 rfl (lv_at hl 0 rfl) ?_
        refine va_get (D := D) (ci := 5) (v := .ref m_now_a) (C := RX5) (T := TX5) (N := 17) hx hb hts hin_X5 hown hK hP 0 rfl rfl 0 (by decide) hf_7 (fun _ h9 => h9) rfl dX5_comes_35 ?_
        refine lv_bipush (v := 17) hx hb dX5_comes_38 (by decide) ?_
        refine lv_bipush (v := 8) hx hb dX5_comes_40 (by decide) ?_
        refine lv_iload_n hx hb dX5_comes_42 rfl (lv_at hl 1 rfl) ?_
        refine lv_imul hx hb dX5_comes_43 ?_
        refine lv_iadd hx hb dX5_comes_44 ?_
        refine lv_iload_n hx hb dX5_comes_45 rfl (lv_at hl 2 rfl) ?_
        refine lv_iadd hx hb dX5_comes_46 ?_
        refine lv_iconst (v := -1) hx hb dX5_comes_47 (by decide) ?_
        obtain ⟨g8, hM⟩ := sx_gd_s hM
        refine va_iast hx hb hK hP hD hS 1 0 rfl rfl (sx_ib_s g8) dX5_comes_48 (fun H locs hP hD hS => ?_)
        have hP : va_P D vwCl [(m_h, .inr (5, [.ref m_now_a, .ref m_tape_a, .int m_typed, .int m_place, .int m_isFault, .ref m_read_a, .ref m_heard_a, .ref m_undone_a, .int m_undos, .ref m_aside_a, .ref m_kept_a, .int m_keptUndos, .int m_isKept, .ref m_lanes_a, .ref m_sizes_a, .ref m_items_a, .ref m_moved_a])), (m_now_a, .inl (cI, 65, .inl (upd z6 ((((17 : Int32) + ((8 : Int32) * v1)) + x5)).toNatClampNeg (-1 : Int32))))] H := hP
        have hD : va_D A [(m_h, .inr (5, [.ref m_now_a, .ref m_tape_a, .int m_typed, .int m_place, .int m_isFault, .ref m_read_a, .ref m_heard_a, .ref m_undone_a, .int m_undos, .ref m_aside_a, .ref m_kept_a, .int m_keptUndos, .int m_isKept, .ref m_lanes_a, .ref m_sizes_a, .ref m_items_a, .ref m_moved_a])), (m_now_a, .inl (cI, 65, .inl (upd z6 ((((17 : Int32) + ((8 : Int32) * v1)) + x5)).toNatClampNeg (-1 : Int32))))] := hD
        obtain ⟨v9, ev9, hM⟩ := sx_nm_s hM
        refine lv_iinc (v := v9) (lv' := [(3, .int v9), (0, .ref m_h), (2, .int v1)]) hx hb dX5_comes_49 hl (k := 2) rfl (by rw [ev9]; rfl) (by decide) rfl (fun ls hl => ?_)
        refine lv_goto (tgt := 28) hx hb dX5_comes_52 (by decide) ?_
        exact ih v9 (upd z6 ((((17 : Int32) + ((8 : Int32) * v1)) + x5)).toNatClampNeg (-1 : Int32)) _ _ _ hM (lv_sub hl [1, 2, 0] rfl) (hP.sub [0, 1] rfl) (hD.sub [0, 1] (by decide) rfl) hS
  exact lp_28 F (0 : Int32) (upd (upd m_now (((5 : Int32) + v1)).toNatClampNeg a1) (((11 : Int32) + v1)).toNatClampNeg v1) _ _ _ hM (lv_sub hl [2, 1, 0] rfl) (hP.sub [0, 1] rfl) (hD.sub [0, 1] (by decide) rfl) hS
set_option maxHeartbeats 4000000 in
set_option maxRecDepth 100000 in
theorem mtX5_comes (l : Launch) (D : va_G) (cI cJ cS : ClassId) (sz : Nat) (m_h m_now_a m_tape_a m_read_a m_heard_a m_undone_a m_aside_a m_kept_a m_lanes_a m_sizes_a m_items_a m_moved_a : Nat) (m_now : Nat → Int32) (m_typed : Int32) (m_place : Int32) (m_isFault : Int32) (m_undos : Int32) (m_keptUndos : Int32) (m_isKept : Int32) (a1 : Int32) (F : Nat) (w_m_now : Nat → Int32) (w_m_undos : Int32) (hM : fnX5_comes F m_now m_undos a1 = some (w_m_now, w_m_undos)) : sx_MV l yX5_comes wsX5_comes ({ frames := 0, cells := 0, slots := 0, locals := 0 }) D (sx_T cI cJ cS) sz [.ref m_h, .int a1] [(m_h, .inr (5, [.ref m_now_a, .ref m_tape_a, .int m_typed, .int m_place, .int m_isFault, .ref m_read_a, .ref m_heard_a, .ref m_undone_a, .int m_undos, .ref m_aside_a, .ref m_kept_a, .int m_keptUndos, .int m_isKept, .ref m_lanes_a, .ref m_sizes_a, .ref m_items_a, .ref m_moved_a])), (m_now_a, .inl (cI, 65, .inl m_now))] [(m_h, .inr (5, [.ref m_now_a, .ref m_tape_a, .int m_typed, .int m_place, .int m_isFault, .ref m_read_a, .ref m_heard_a, .ref m_undone_a, .int w_m_undos, .ref m_aside_a, .ref m_kept_a, .int m_keptUndos, .int m_isKept, .ref m_lanes_a, .ref m_sizes_a, .ref m_items_a, .ref m_moved_a])), (m_now_a, .inl (cI, 65, .inl w_m_now))] := by
  refine Met.ofW (cc := cX5_comes) (maxL := 4) (ret := none) (by decide) rfl ?_
  intro p e s m args below meth c s₁ B hml hv
  obtain ⟨rfl, hsz, hN, hP, hK, hD0⟩ := hv
  subst hsz
  have hl := lv_entry ([.ref m_h, .int a1]) (n := 4) (Nat.le_of_ble_eq_true rfl)
  rw [lg_entry_eq]
  generalize (lg_sl ([.ref m_h, .int a1]) ++ List.replicate (4 - (lg_sl ([.ref m_h, .int a1])).length) Slot.unset).toArray = ls at hl ⊢
  exact kwX5_comes B.exec B.bytes hml (findClass_of_methodNamed B.named) (atoms_spec (ws := wsX5_comes) B.pre) hN hK (fun q h => Or.inr h) (by decide) (by decide) ⟨Nat.zero_le _, Nat.zero_le _⟩ m_h m_now_a m_tape_a m_read_a m_heard_a m_undone_a m_aside_a m_kept_a m_lanes_a m_sizes_a m_items_a m_moved_a m_now m_typed m_place m_isFault m_undos m_keptUndos m_isKept a1 F w_m_now w_m_undos hM _ _ _ hl hP hD0.self va_S.rf (fun H1 locs1 ls1 pc1 hd hP hD hS => W.vret B.exec B.bytes B.returns (fun t ht hW => ⟨⟨(), rfl, trivial, by rw [ht]; exact hP, hD⟩, hS.F ht⟩) hS.2.2 hd)

def fnX5_person (F : Nat) (m_now : Nat → Int32) (m_undos : Int32) (a1 : Int32) : Option (Int32 × (Nat → Int32) × Int32) :=
  sx_c1 (fnX5_in F (a1).toInt64 (0 : Int64) (4 : Int64)) (fun (r1 : Int32) => (if r1 = 0 then (some ((-1 : Int32), m_now, m_undos)) else (if (m_now ((0 : Int32)).toNatClampNeg) = (6 : Int32) then (some ((-3 : Int32), m_now, m_undos)) else sx_c2 (fnX5_comes F m_now m_undos a1) (fun (w5 : Nat → Int32) (w6 : Int32) => (some (((w5 ((0 : Int32)).toNatClampNeg) - (1 : Int32)), w5, w6))))))
set_option maxHeartbeats 4000000 in
set_option maxRecDepth 100000 in
theorem kwX5_person {p : Program} {l : Launch} {e : Env} {R : Room} {s : State} {m : MethodId} {args : Array Value} {below : List Frame} {meth : Method} {c : Code} {cells slots : Nat} {Q : State → Prop} {A : Nat → Prop} {H0 : Heap} {D : va_G} {cI cJ cS : ClassId} (hx : p.tables.exec = Jvm.exec) (hb : c.code = cX5_person) (hml : c.maxLocals = 2) (hown : s.vm.findClass RX5 = some m.cls) (hts : ∀ w ∈ wsX5_person, w.before args s = true) (hN : sx_N s) (hK : va_K D vwCl (sx_T cI cJ cS) s) (hA : ∀ q, H0.size ≤ q → A q) (hRf : 1 ≤ R.frames) (hRl : 25 ≤ R.locals) (hRc : cells ≤ R.cells ∧ slots ≤ R.slots) (m_h m_now_a m_tape_a m_read_a m_heard_a m_undone_a m_aside_a m_kept_a m_lanes_a m_sizes_a m_items_a m_moved_a : Nat) (m_now : Nat → Int32) (m_typed : Int32) (m_place : Int32) (m_isFault : Int32) (m_undos : Int32) (m_keptUndos : Int32) (m_isKept : Int32) (a1 : Int32) (F : Nat) (r0 : Int32) (w_m_now : Nat → Int32) (w_m_undos : Int32) (hM : fnX5_person F m_now m_undos a1 = some (r0, w_m_now, w_m_undos)) (H : Heap) (locs : List Loc) (ls : Array Slot) (hl : lv_has ls 2 [(0, .ref m_h), (1, .int a1)]) (hP : va_P D vwCl [(m_h, .inr (5, [.ref m_now_a, .ref m_tape_a, .int m_typed, .int m_place, .int m_isFault, .ref m_read_a, .ref m_heard_a, .ref m_undone_a, .int m_undos, .ref m_aside_a, .ref m_kept_a, .int m_keptUndos, .int m_isKept, .ref m_lanes_a, .ref m_sizes_a, .ref m_items_a, .ref m_moved_a])), (m_now_a, .inl (cI, 65, .inl m_now))] H) (hD : va_D A [(m_h, .inr (5, [.ref m_now_a, .ref m_tape_a, .int m_typed, .int m_place, .int m_isFault, .ref m_read_a, .ref m_heard_a, .ref m_undone_a, .int m_undos, .ref m_aside_a, .ref m_kept_a, .int m_keptUndos, .int m_isKept, .ref m_lanes_a, .ref m_sizes_a, .ref m_items_a, .ref m_moved_a])), (m_now_a, .inl (cI, 65, .inl m_now))]) (hS : va_S A H0 H locs)
    (hret : ∀ (H1 : Heap) (locs1 : List Loc) (ls1 : Array Slot) (pc1 : Nat), decode cX5_person pc1 = .ok (.ireturn, 1) → va_P D vwCl [(m_h, .inr (5, [.ref m_now_a, .ref m_tape_a, .int m_typed, .int m_place, .int m_isFault, .ref m_read_a, .ref m_heard_a, .ref m_undone_a, .int w_m_undos, .ref m_aside_a, .ref m_kept_a, .int m_keptUndos, .int m_isKept, .ref m_lanes_a, .ref m_sizes_a, .ref m_items_a, .ref m_moved_a])), (m_now_a, .inl (cI, 65, .inl w_m_now))] H1 → va_D A [(m_h, .inr (5, [.ref m_now_a, .ref m_tape_a, .int m_typed, .int m_place, .int m_isFault, .ref m_read_a, .ref m_heard_a, .ref m_undone_a, .int w_m_undos, .ref m_aside_a, .ref m_kept_a, .int m_keptUndos, .int m_isKept, .ref m_lanes_a, .ref m_sizes_a, .ref m_items_a, .ref m_moved_a])), (m_now_a, .inl (cI, 65, .inl w_m_now))] → va_S A H0 H1 locs1 → W p l e R s m args below meth c H1 locs1 cells slots Q (F0 m pc1 ls1 [.int r0])) : W p l e R s m args below meth c H locs cells slots Q (F0 m 0 ls []) := by
  have hf_7 := hts (.fieldLink RX5 7 "SealedLipsModel" "now" "[I") (by decide +kernel)
  have hin_X5 : ∀ w ∈ wsX50, w ∈ wsX5_person := by decide +kernel
  unfold fnX5_person at hM
  refine lv_iload_n hx hb dX5_person_0 rfl (lv_at hl 1 rfl) ?_
  refine lv_i2l hx hb dX5_person_1 rfl ?_
  refine lv_lconst (v := 0) hx hb dX5_person_2 (by decide) ?_
  refine lv_ldc2 (v := 4) hx hb hown (hts (.constantLong RX5 71 (4)) (by decide +kernel)) dX5_person_3 ?_
  obtain ⟨r1, hc2, hM⟩ := sx_c1_s hM
  refine sx_iS (As := [.long (a1).toInt64, .long (0 : Int64), .long (4 : Int64)]) (rest := []) (wc := []) (wr := [(m_h, .inr (5, [.ref m_now_a, .ref m_tape_a, .int m_typed, .int m_place, .int m_isFault, .ref m_read_a, .ref m_heard_a, .ref m_undone_a, .int m_undos, .ref m_aside_a, .ref m_kept_a, .int m_keptUndos, .int m_isKept, .ref m_lanes_a, .ref m_sizes_a, .ref m_items_a, .ref m_moved_a])), (m_now_a, .inl (cI, 65, .inl m_now))]) (w1 := []) ⟨hx, hb, hml, hown, hts⟩ (mtX5_in l D cI cJ cS H.size (a1).toInt64 (0 : Int64) (4 : Int64) F r1 hc2) (va_cwS 3 hts gX5_person_X5_in rfl rfl rfl (by decide +kernel) ⟨Nat.le_trans (by decide) hRf, Nat.le_trans (by decide) hRl⟩) hK hN hP hD hS hA [] [0, 1] rfl (by decide) rfl (by decide) (by decide) rfl hl.1 rfl (Nat.le_of_ble_eq_true rfl) dX5_person_6 hRc (fun H locs hP hD hS => ?_)
  have hP : va_P D vwCl [(m_h, .inr (5, [.ref m_now_a, .ref m_tape_a, .int m_typed, .int m_place, .int m_isFault, .ref m_read_a, .ref m_heard_a, .ref m_undone_a, .int m_undos, .ref m_aside_a, .ref m_kept_a, .int m_keptUndos, .int m_isKept, .ref m_lanes_a, .ref m_sizes_a, .ref m_items_a, .ref m_moved_a])), (m_now_a, .inl (cI, 65, .inl m_now))] H := hP
  have hD : va_D A [(m_h, .inr (5, [.ref m_now_a, .ref m_tape_a, .int m_typed, .int m_place, .int m_isFault, .ref m_read_a, .ref m_heard_a, .ref m_undone_a, .int m_undos, .ref m_aside_a, .ref m_kept_a, .int m_keptUndos, .int m_isKept, .ref m_lanes_a, .ref m_sizes_a, .ref m_items_a, .ref m_moved_a])), (m_now_a, .inl (cI, 65, .inl m_now))] := hD
  refine lv_if_ne (tgt := 14) hx hb dX5_person_9 (by decide) (fun c3 => ?_) (fun c3 => ?_)
  · replace hM := sx_iff c3 hM
    refine lv_aload_n hx hb dX5_person_14 rfl (lv_at hl 0 rfl) ?_
    refine va_get (D := D) (ci := 5) (v := .ref m_now_a) (C := RX5) (T := TX5) (N := 17) hx hb hts hin_X5 hown hK hP 0 rfl rfl 0 (by decide) hf_7 (fun _ h9 => h9) rfl dX5_person_15 ?_
    refine lv_iconst (v := 0) hx hb dX5_person_18 (by decide) ?_
    refine va_iald hx hb hK hP 1 0 rfl rfl (sx_ib_s (by decide)) dX5_person_19 ?_
    refine lv_bipush (v := 6) hx hb dX5_person_20 (by decide) ?_
    refine lv_icmp_ne (tgt := 28) hx hb dX5_person_22 (by decide) (fun c4 => ?_) (fun c4 => ?_)
    · replace hM := sx_iff c4 hM
      refine lv_aload_n hx hb dX5_person_28 rfl (lv_at hl 0 rfl) ?_
      refine lv_iload_n hx hb dX5_person_29 rfl (lv_at hl 1 rfl) ?_
      obtain ⟨w5, w6, hc7, hM⟩ := sx_c2_s hM
      refine sx_vV (As := [.int a1]) (rest := []) (wc := [(m_h, .inr (5, [.ref m_now_a, .ref m_tape_a, .int m_typed, .int m_place, .int m_isFault, .ref m_read_a, .ref m_heard_a, .ref m_undone_a, .int m_undos, .ref m_aside_a, .ref m_kept_a, .int m_keptUndos, .int m_isKept, .ref m_lanes_a, .ref m_sizes_a, .ref m_items_a, .ref m_moved_a])), (m_now_a, .inl (cI, 65, .inl m_now))]) (wr := []) (w1 := [(m_h, .inr (5, [.ref m_now_a, .ref m_tape_a, .int m_typed, .int m_place, .int m_isFault, .ref m_read_a, .ref m_heard_a, .ref m_undone_a, .int w6, .ref m_aside_a, .ref m_kept_a, .int m_keptUndos, .int m_isKept, .ref m_lanes_a, .ref m_sizes_a, .ref m_items_a, .ref m_moved_a])), (m_now_a, .inl (cI, 65, .inl w5))]) ⟨hx, hb, hml, hown, hts⟩ (mtX5_comes l D cI cJ cS H.size m_h m_now_a m_tape_a m_read_a m_heard_a m_undone_a m_aside_a m_kept_a m_lanes_a m_sizes_a m_items_a m_moved_a m_now m_typed m_place m_isFault m_undos m_keptUndos m_isKept a1 F w5 w6 hc7) (cwV 1 hts gX5_person_X5_comes rfl rfl rfl (by decide +kernel) ⟨Nat.le_trans (by decide) hRf, Nat.le_trans (by decide) hRl⟩) hK hN hP hD hS hA [0, 1] [] rfl (by decide) rfl (by decide) (by decide) rfl rfl rfl rfl hl.1 rfl (Nat.le_of_ble_eq_true rfl) dX5_person_30 hRc (fun H locs hP hD hS => ?_)
      have hP : va_P D vwCl [(m_h, .inr (5, [.ref m_now_a, .ref m_tape_a, .int m_typed, .int m_place, .int m_isFault, .ref m_read_a, .ref m_heard_a, .ref m_undone_a, .int w6, .ref m_aside_a, .ref m_kept_a, .int m_keptUndos, .int m_isKept, .ref m_lanes_a, .ref m_sizes_a, .ref m_items_a, .ref m_moved_a])), (m_now_a, .inl (cI, 65, .inl w5))] H := hP
      have hD : va_D A [(m_h, .inr (5, [.ref m_now_a, .ref m_tape_a, .int m_typed, .int m_place, .int m_isFault, .ref m_read_a, .ref m_heard_a, .ref m_undone_a, .int w6, .ref m_aside_a, .ref m_kept_a, .int m_keptUndos, .int m_isKept, .ref m_lanes_a, .ref m_sizes_a, .ref m_items_a, .ref m_moved_a])), (m_now_a, .inl (cI, 65, .inl w5))] := hD
      refine lv_aload_n hx hb dX5_person_33 rfl (lv_at hl 0 rfl) ?_
      refine va_get (D := D) (ci := 5) (v := .ref m_now_a) (C := RX5) (T := TX5) (N := 17) hx hb hts hin_X5 hown hK hP 0 rfl rfl 0 (by decide) hf_7 (fun _ h9 => h9) rfl dX5_person_34 ?_
      refine lv_iconst (v := 0) hx hb dX5_person_37 (by decide) ?_
      refine va_iald hx hb hK hP 1 0 rfl rfl (sx_ib_s (by decide)) dX5_person_38 ?_
      refine lv_iconst (v := 1) hx hb dX5_person_39 (by decide) ?_
      refine lv_isub hx hb dX5_person_40 ?_
      obtain ⟨rfl, rfl, rfl⟩ := sx_o3 hM
      exact hret _ _ _ _ dX5_person_41 (hP.sub [0, 1] rfl) (hD.sub [0, 1] (by decide) rfl) hS
    · replace hM := sx_ift c4 hM
      refine lv_bipush (v := -3) hx hb dX5_person_25 (by decide) ?_
      obtain ⟨rfl, rfl, rfl⟩ := sx_o3 hM
      exact hret _ _ _ _ dX5_person_27 (hP.sub [0, 1] rfl) (hD.sub [0, 1] (by decide) rfl) hS
  · replace hM := sx_ift c3 hM
    refine lv_iconst (v := -1) hx hb dX5_person_12 (by decide) ?_
    obtain ⟨rfl, rfl, rfl⟩ := sx_o3 hM
    exact hret _ _ _ _ dX5_person_13 (hP.sub [0, 1] rfl) (hD.sub [0, 1] (by decide) rfl) hS
set_option maxHeartbeats 4000000 in
set_option maxRecDepth 100000 in
theorem mtX5_person (l : Launch) (D : va_G) (cI cJ cS : ClassId) (sz : Nat) (m_h m_now_a m_tape_a m_read_a m_heard_a m_undone_a m_aside_a m_kept_a m_lanes_a m_sizes_a m_items_a m_moved_a : Nat) (m_now : Nat → Int32) (m_typed : Int32) (m_place : Int32) (m_isFault : Int32) (m_undos : Int32) (m_keptUndos : Int32) (m_isKept : Int32) (a1 : Int32) (F : Nat) (r0 : Int32) (w_m_now : Nat → Int32) (w_m_undos : Int32) (hM : fnX5_person F m_now m_undos a1 = some (r0, w_m_now, w_m_undos)) : sx_MI l yX5_person wsX5_person ({ frames := 1, cells := 0, slots := 0, locals := 25 }) D (sx_T cI cJ cS) sz [.ref m_h, .int a1] [(m_h, .inr (5, [.ref m_now_a, .ref m_tape_a, .int m_typed, .int m_place, .int m_isFault, .ref m_read_a, .ref m_heard_a, .ref m_undone_a, .int m_undos, .ref m_aside_a, .ref m_kept_a, .int m_keptUndos, .int m_isKept, .ref m_lanes_a, .ref m_sizes_a, .ref m_items_a, .ref m_moved_a])), (m_now_a, .inl (cI, 65, .inl m_now))] r0 [(m_h, .inr (5, [.ref m_now_a, .ref m_tape_a, .int m_typed, .int m_place, .int m_isFault, .ref m_read_a, .ref m_heard_a, .ref m_undone_a, .int w_m_undos, .ref m_aside_a, .ref m_kept_a, .int m_keptUndos, .int m_isKept, .ref m_lanes_a, .ref m_sizes_a, .ref m_items_a, .ref m_moved_a])), (m_now_a, .inl (cI, 65, .inl w_m_now))] := by
  refine Met.ofW (cc := cX5_person) (maxL := 2) (ret := (some .int)) (by decide) rfl ?_
  intro p e s m args below meth c s₁ B hml hv
  obtain ⟨rfl, hsz, hN, hP, hK, hD0⟩ := hv
  subst hsz
  have hl := lv_entry ([.ref m_h, .int a1]) (n := 2) (Nat.le_of_ble_eq_true rfl)
  rw [lg_entry_eq]
  generalize (lg_sl ([.ref m_h, .int a1]) ++ List.replicate (2 - (lg_sl ([.ref m_h, .int a1])).length) Slot.unset).toArray = ls at hl ⊢
  exact kwX5_person B.exec B.bytes hml (findClass_of_methodNamed B.named) (atoms_spec (ws := wsX5_person) B.pre) hN hK (fun q h => Or.inr h) (by decide) (by decide) ⟨Nat.zero_le _, Nat.zero_le _⟩ m_h m_now_a m_tape_a m_read_a m_heard_a m_undone_a m_aside_a m_kept_a m_lanes_a m_sizes_a m_items_a m_moved_a m_now m_typed m_place m_isFault m_undos m_keptUndos m_isKept a1 F r0 w_m_now w_m_undos hM _ _ _ hl hP hD0.self va_S.rf (fun H1 locs1 ls1 pc1 hd hP hD hS => W.iret (v := r0) B.exec B.bytes B.returns (fun t ht hW => ⟨⟨r0, (), rfl, rfl, by rw [ht]; exact hP, hD⟩, hS.F ht⟩) hS.2.2 hd)

def fnX5_of (F : Nat) (m_now : Nat → Int32) (a1 : Int32) (a2 : Int32) : Option (Int32) :=
  sx_c1 (fnX5_isPerson F m_now a1) (fun (r1 : Int32) => (if r1 = 0 then (some ((-1 : Int32))) else sx_c1 (fnX5_in F (a2).toInt64 (0 : Int64) (5 : Int64)) (fun (r4 : Int32) => (if r4 = 0 then (some ((-1 : Int32))) else (if a2 = (0 : Int32) then sx_gd (sx_ib ((5 : Int32) + a1) 65) ((some ((m_now (((5 : Int32) + a1)).toNatClampNeg)))) else (if a2 = (1 : Int32) then sx_c1 (fnX5_things F m_now a1 (0 : Int32)) (fun (r10 : Int32) => (some (r10))) else (if a2 = (2 : Int32) then sx_c1 (fnX5_things F m_now a1 (1 : Int32)) (fun (r13 : Int32) => (some (r13))) else (if a2 = (3 : Int32) then sx_c1 (fnX5_rank F m_now a1) (fun (r16 : Int32) => (some (r16))) else (if a2 = (4 : Int32) then sx_c1 (fnX5_beside F m_now a1 (1 : Int32)) (fun (r19 : Int32) => (some (r19))) else sx_c1 (fnX5_beside F m_now a1 ((m_now ((0 : Int32)).toNatClampNeg) - (1 : Int32))) (fun (r21 : Int32) => (some (r21))))))))))))
set_option maxHeartbeats 4000000 in
set_option maxRecDepth 100000 in
theorem kwX5_of {p : Program} {l : Launch} {e : Env} {R : Room} {s : State} {m : MethodId} {args : Array Value} {below : List Frame} {meth : Method} {c : Code} {cells slots : Nat} {Q : State → Prop} {A : Nat → Prop} {H0 : Heap} {D : va_G} {cI cJ cS : ClassId} (hx : p.tables.exec = Jvm.exec) (hb : c.code = cX5_of) (hml : c.maxLocals = 3) (hown : s.vm.findClass RX5 = some m.cls) (hts : ∀ w ∈ wsX5_of, w.before args s = true) (hN : sx_N s) (hK : va_K D vwCl (sx_T cI cJ cS) s) (hA : ∀ q, H0.size ≤ q → A q) (hRf : 3 ≤ R.frames) (hRl : 68 ≤ R.locals) (hRc : cells ≤ R.cells ∧ slots ≤ R.slots) (m_h m_now_a m_tape_a m_read_a m_heard_a m_undone_a m_aside_a m_kept_a m_lanes_a m_sizes_a m_items_a m_moved_a : Nat) (m_now : Nat → Int32) (m_typed : Int32) (m_place : Int32) (m_isFault : Int32) (m_undos : Int32) (m_keptUndos : Int32) (m_isKept : Int32) (a1 : Int32) (a2 : Int32) (F : Nat) (r0 : Int32) (hM : fnX5_of F m_now a1 a2 = some r0) (H : Heap) (locs : List Loc) (ls : Array Slot) (hl : lv_has ls 3 [(0, .ref m_h), (1, .int a1), (2, .int a2)]) (hP : va_P D vwCl [(m_h, .inr (5, [.ref m_now_a, .ref m_tape_a, .int m_typed, .int m_place, .int m_isFault, .ref m_read_a, .ref m_heard_a, .ref m_undone_a, .int m_undos, .ref m_aside_a, .ref m_kept_a, .int m_keptUndos, .int m_isKept, .ref m_lanes_a, .ref m_sizes_a, .ref m_items_a, .ref m_moved_a])), (m_now_a, .inl (cI, 65, .inl m_now))] H) (hD : va_D A [(m_h, .inr (5, [.ref m_now_a, .ref m_tape_a, .int m_typed, .int m_place, .int m_isFault, .ref m_read_a, .ref m_heard_a, .ref m_undone_a, .int m_undos, .ref m_aside_a, .ref m_kept_a, .int m_keptUndos, .int m_isKept, .ref m_lanes_a, .ref m_sizes_a, .ref m_items_a, .ref m_moved_a])), (m_now_a, .inl (cI, 65, .inl m_now))]) (hS : va_S A H0 H locs)
    (hret : ∀ (H1 : Heap) (locs1 : List Loc) (ls1 : Array Slot) (pc1 : Nat), decode cX5_of pc1 = .ok (.ireturn, 1) → va_P D vwCl [(m_h, .inr (5, [.ref m_now_a, .ref m_tape_a, .int m_typed, .int m_place, .int m_isFault, .ref m_read_a, .ref m_heard_a, .ref m_undone_a, .int m_undos, .ref m_aside_a, .ref m_kept_a, .int m_keptUndos, .int m_isKept, .ref m_lanes_a, .ref m_sizes_a, .ref m_items_a, .ref m_moved_a])), (m_now_a, .inl (cI, 65, .inl m_now))] H1 → va_D A [(m_h, .inr (5, [.ref m_now_a, .ref m_tape_a, .int m_typed, .int m_place, .int m_isFault, .ref m_read_a, .ref m_heard_a, .ref m_undone_a, .int m_undos, .ref m_aside_a, .ref m_kept_a, .int m_keptUndos, .int m_isKept, .ref m_lanes_a, .ref m_sizes_a, .ref m_items_a, .ref m_moved_a])), (m_now_a, .inl (cI, 65, .inl m_now))] → va_S A H0 H1 locs1 → W p l e R s m args below meth c H1 locs1 cells slots Q (F0 m pc1 ls1 [.int r0])) : W p l e R s m args below meth c H locs cells slots Q (F0 m 0 ls []) := by
  have hf_7 := hts (.fieldLink RX5 7 "SealedLipsModel" "now" "[I") (by decide +kernel)
  have hin_X5 : ∀ w ∈ wsX50, w ∈ wsX5_of := by decide +kernel
  unfold fnX5_of at hM
  refine lv_aload_n hx hb dX5_of_0 rfl (lv_at hl 0 rfl) ?_
  refine lv_iload_n hx hb dX5_of_1 rfl (lv_at hl 1 rfl) ?_
  obtain ⟨r1, hc2, hM⟩ := sx_c1_s hM
  refine sx_iV (As := [.int a1]) (rest := []) (wc := [(m_h, .inr (5, [.ref m_now_a, .ref m_tape_a, .int m_typed, .int m_place, .int m_isFault, .ref m_read_a, .ref m_heard_a, .ref m_undone_a, .int m_undos, .ref m_aside_a, .ref m_kept_a, .int m_keptUndos, .int m_isKept, .ref m_lanes_a, .ref m_sizes_a, .ref m_items_a, .ref m_moved_a])), (m_now_a, .inl (cI, 65, .inl m_now))]) (wr := []) (w1 := [(m_h, .inr (5, [.ref m_now_a, .ref m_tape_a, .int m_typed, .int m_place, .int m_isFault, .ref m_read_a, .ref m_heard_a, .ref m_undone_a, .int m_undos, .ref m_aside_a, .ref m_kept_a, .int m_keptUndos, .int m_isKept, .ref m_lanes_a, .ref m_sizes_a, .ref m_items_a, .ref m_moved_a])), (m_now_a, .inl (cI, 65, .inl m_now))]) ⟨hx, hb, hml, hown, hts⟩ (mtX5_isPerson l D cI cJ cS H.size m_h m_now_a m_tape_a m_read_a m_heard_a m_undone_a m_aside_a m_kept_a m_lanes_a m_sizes_a m_items_a m_moved_a m_now m_typed m_place m_isFault m_undos m_keptUndos m_isKept a1 F r1 hc2) (cwV 1 hts gX5_of_X5_isPerson rfl rfl rfl (by decide +kernel) ⟨Nat.le_trans (by decide) hRf, Nat.le_trans (by decide) hRl⟩) hK hN hP hD hS hA [0, 1] [] rfl (by decide) rfl (by decide) (by decide) rfl rfl rfl rfl hl.1 rfl (Nat.le_of_ble_eq_true rfl) dX5_of_2 hRc (fun H locs hP hD hS => ?_)
  have hP : va_P D vwCl [(m_h, .inr (5, [.ref m_now_a, .ref m_tape_a, .int m_typed, .int m_place, .int m_isFault, .ref m_read_a, .ref m_heard_a, .ref m_undone_a, .int m_undos, .ref m_aside_a, .ref m_kept_a, .int m_keptUndos, .int m_isKept, .ref m_lanes_a, .ref m_sizes_a, .ref m_items_a, .ref m_moved_a])), (m_now_a, .inl (cI, 65, .inl m_now))] H := hP
  have hD : va_D A [(m_h, .inr (5, [.ref m_now_a, .ref m_tape_a, .int m_typed, .int m_place, .int m_isFault, .ref m_read_a, .ref m_heard_a, .ref m_undone_a, .int m_undos, .ref m_aside_a, .ref m_kept_a, .int m_keptUndos, .int m_isKept, .ref m_lanes_a, .ref m_sizes_a, .ref m_items_a, .ref m_moved_a])), (m_now_a, .inl (cI, 65, .inl m_now))] := hD
  refine lv_if_eq (tgt := 20) hx hb dX5_of_5 (by decide) (fun c3 => ?_) (fun c3 => ?_)
  · replace hM := sx_ift c3 hM
    refine lv_iconst (v := -1) hx hb dX5_of_20 (by decide) ?_
    obtain rfl := sx_o1 hM
    exact hret _ _ _ _ dX5_of_21 (hP.sub [0, 1] rfl) (hD.sub [0, 1] (by decide) rfl) hS
  · replace hM := sx_iff c3 hM
    refine lv_iload_n hx hb dX5_of_8 rfl (lv_at hl 2 rfl) ?_
    refine lv_i2l hx hb dX5_of_9 rfl ?_
    refine lv_lconst (v := 0) hx hb dX5_of_10 (by decide) ?_
    refine lv_ldc2 (v := 5) hx hb hown (hts (.constantLong RX5 84 (5)) (by decide +kernel)) dX5_of_11 ?_
    obtain ⟨r4, hc5, hM⟩ := sx_c1_s hM
    refine sx_iS (As := [.long (a2).toInt64, .long (0 : Int64), .long (5 : Int64)]) (rest := []) (wc := []) (wr := [(m_h, .inr (5, [.ref m_now_a, .ref m_tape_a, .int m_typed, .int m_place, .int m_isFault, .ref m_read_a, .ref m_heard_a, .ref m_undone_a, .int m_undos, .ref m_aside_a, .ref m_kept_a, .int m_keptUndos, .int m_isKept, .ref m_lanes_a, .ref m_sizes_a, .ref m_items_a, .ref m_moved_a])), (m_now_a, .inl (cI, 65, .inl m_now))]) (w1 := []) ⟨hx, hb, hml, hown, hts⟩ (mtX5_in l D cI cJ cS H.size (a2).toInt64 (0 : Int64) (5 : Int64) F r4 hc5) (va_cwS 3 hts gX5_of_X5_in rfl rfl rfl (by decide +kernel) ⟨Nat.le_trans (by decide) hRf, Nat.le_trans (by decide) hRl⟩) hK hN hP hD hS hA [] [0, 1] rfl (by decide) rfl (by decide) (by decide) rfl hl.1 rfl (Nat.le_of_ble_eq_true rfl) dX5_of_14 hRc (fun H locs hP hD hS => ?_)
    have hP : va_P D vwCl [(m_h, .inr (5, [.ref m_now_a, .ref m_tape_a, .int m_typed, .int m_place, .int m_isFault, .ref m_read_a, .ref m_heard_a, .ref m_undone_a, .int m_undos, .ref m_aside_a, .ref m_kept_a, .int m_keptUndos, .int m_isKept, .ref m_lanes_a, .ref m_sizes_a, .ref m_items_a, .ref m_moved_a])), (m_now_a, .inl (cI, 65, .inl m_now))] H := hP
    have hD : va_D A [(m_h, .inr (5, [.ref m_now_a, .ref m_tape_a, .int m_typed, .int m_place, .int m_isFault, .ref m_read_a, .ref m_heard_a, .ref m_undone_a, .int m_undos, .ref m_aside_a, .ref m_kept_a, .int m_keptUndos, .int m_isKept, .ref m_lanes_a, .ref m_sizes_a, .ref m_items_a, .ref m_moved_a])), (m_now_a, .inl (cI, 65, .inl m_now))] := hD
    refine lv_if_ne (tgt := 22) hx hb dX5_of_17 (by decide) (fun c6 => ?_) (fun c6 => ?_)
    · replace hM := sx_iff c6 hM
      refine lv_iload_n hx hb dX5_of_22 rfl (lv_at hl 2 rfl) ?_
      by_cases c7 : a2 = (0 : Int32)
      · replace hM := sx_ift c7 hM
        refine lv_tableIn (off := 33) (tgt := 56) hx hb dX5_of_23 (by rw [c7]; decide) (by rw [c7]; decide) (by rw [c7]; decide) (by decide) ?_
        refine lv_aload_n hx hb dX5_of_56 rfl (lv_at hl 0 rfl) ?_
        refine va_get (D := D) (ci := 5) (v := .ref m_now_a) (C := RX5) (T := TX5) (N := 17) hx hb hts hin_X5 hown hK hP 0 rfl rfl 0 (by decide) hf_7 (fun _ h9 => h9) rfl dX5_of_57 ?_
        refine lv_iconst (v := 5) hx hb dX5_of_60 (by decide) ?_
        refine lv_iload_n hx hb dX5_of_61 rfl (lv_at hl 1 rfl) ?_
        refine lv_iadd hx hb dX5_of_62 ?_
        obtain ⟨g8, hM⟩ := sx_gd_s hM
        refine va_iald hx hb hK hP 1 0 rfl rfl (sx_ib_s g8) dX5_of_63 ?_
        obtain rfl := sx_o1 hM
        exact hret _ _ _ _ dX5_of_64 (hP.sub [0, 1] rfl) (hD.sub [0, 1] (by decide) rfl) hS
      · replace hM := sx_iff c7 hM
        have c7t : ¬ a2.toInt = 0 := fun h => c7 (Int32.toInt_inj.mp (h.trans (by decide)))
        by_cases c9 : a2 = (1 : Int32)
        · replace hM := sx_ift c9 hM
          refine lv_tableIn (off := 42) (tgt := 65) hx hb dX5_of_23 (by rw [c9]; decide) (by rw [c9]; decide) (by rw [c9]; decide) (by decide) ?_
          refine lv_aload_n hx hb dX5_of_65 rfl (lv_at hl 0 rfl) ?_
          refine lv_iload_n hx hb dX5_of_66 rfl (lv_at hl 1 rfl) ?_
          refine lv_iconst (v := 0) hx hb dX5_of_67 (by decide) ?_
          obtain ⟨r10, hc11, hM⟩ := sx_c1_s hM
          refine sx_iV (As := [.int a1, .int (0 : Int32)]) (rest := []) (wc := [(m_h, .inr (5, [.ref m_now_a, .ref m_tape_a, .int m_typed, .int m_place, .int m_isFault, .ref m_read_a, .ref m_heard_a, .ref m_undone_a, .int m_undos, .ref m_aside_a, .ref m_kept_a, .int m_keptUndos, .int m_isKept, .ref m_lanes_a, .ref m_sizes_a, .ref m_items_a, .ref m_moved_a])), (m_now_a, .inl (cI, 65, .inl m_now))]) (wr := []) (w1 := [(m_h, .inr (5, [.ref m_now_a, .ref m_tape_a, .int m_typed, .int m_place, .int m_isFault, .ref m_read_a, .ref m_heard_a, .ref m_undone_a, .int m_undos, .ref m_aside_a, .ref m_kept_a, .int m_keptUndos, .int m_isKept, .ref m_lanes_a, .ref m_sizes_a, .ref m_items_a, .ref m_moved_a])), (m_now_a, .inl (cI, 65, .inl m_now))]) ⟨hx, hb, hml, hown, hts⟩ (mtX5_things l D cI cJ cS H.size m_h m_now_a m_tape_a m_read_a m_heard_a m_undone_a m_aside_a m_kept_a m_lanes_a m_sizes_a m_items_a m_moved_a m_now m_typed m_place m_isFault m_undos m_keptUndos m_isKept a1 (0 : Int32) F r10 hc11) (cwV 2 hts gX5_of_X5_things rfl rfl rfl (by decide +kernel) ⟨Nat.le_trans (by decide) hRf, Nat.le_trans (by decide) hRl⟩) hK hN hP hD hS hA [0, 1] [] rfl (by decide) rfl (by decide) (by decide) rfl rfl rfl rfl hl.1 rfl (Nat.le_of_ble_eq_true rfl) dX5_of_68 hRc (fun H locs hP hD hS => ?_)
          have hP : va_P D vwCl [(m_h, .inr (5, [.ref m_now_a, .ref m_tape_a, .int m_typed, .int m_place, .int m_isFault, .ref m_read_a, .ref m_heard_a, .ref m_undone_a, .int m_undos, .ref m_aside_a, .ref m_kept_a, .int m_keptUndos, .int m_isKept, .ref m_lanes_a, .ref m_sizes_a, .ref m_items_a, .ref m_moved_a])), (m_now_a, .inl (cI, 65, .inl m_now))] H := hP
          have hD : va_D A [(m_h, .inr (5, [.ref m_now_a, .ref m_tape_a, .int m_typed, .int m_place, .int m_isFault, .ref m_read_a, .ref m_heard_a, .ref m_undone_a, .int m_undos, .ref m_aside_a, .ref m_kept_a, .int m_keptUndos, .int m_isKept, .ref m_lanes_a, .ref m_sizes_a, .ref m_items_a, .ref m_moved_a])), (m_now_a, .inl (cI, 65, .inl m_now))] := hD
          obtain rfl := sx_o1 hM
          exact hret _ _ _ _ dX5_of_71 (hP.sub [0, 1] rfl) (hD.sub [0, 1] (by decide) rfl) hS
        · replace hM := sx_iff c9 hM
          have c9t : ¬ a2.toInt = 1 := fun h => c9 (Int32.toInt_inj.mp (h.trans (by decide)))
          by_cases c12 : a2 = (2 : Int32)
          · replace hM := sx_ift c12 hM
            refine lv_tableIn (off := 49) (tgt := 72) hx hb dX5_of_23 (by rw [c12]; decide) (by rw [c12]; decide) (by rw [c12]; decide) (by decide) ?_
            refine lv_aload_n hx hb dX5_of_72 rfl (lv_at hl 0 rfl) ?_
            refine lv_iload_n hx hb dX5_of_73 rfl (lv_at hl 1 rfl) ?_
            refine lv_iconst (v := 1) hx hb dX5_of_74 (by decide) ?_
            obtain ⟨r13, hc14, hM⟩ := sx_c1_s hM
            refine sx_iV (As := [.int a1, .int (1 : Int32)]) (rest := []) (wc := [(m_h, .inr (5, [.ref m_now_a, .ref m_tape_a, .int m_typed, .int m_place, .int m_isFault, .ref m_read_a, .ref m_heard_a, .ref m_undone_a, .int m_undos, .ref m_aside_a, .ref m_kept_a, .int m_keptUndos, .int m_isKept, .ref m_lanes_a, .ref m_sizes_a, .ref m_items_a, .ref m_moved_a])), (m_now_a, .inl (cI, 65, .inl m_now))]) (wr := []) (w1 := [(m_h, .inr (5, [.ref m_now_a, .ref m_tape_a, .int m_typed, .int m_place, .int m_isFault, .ref m_read_a, .ref m_heard_a, .ref m_undone_a, .int m_undos, .ref m_aside_a, .ref m_kept_a, .int m_keptUndos, .int m_isKept, .ref m_lanes_a, .ref m_sizes_a, .ref m_items_a, .ref m_moved_a])), (m_now_a, .inl (cI, 65, .inl m_now))]) ⟨hx, hb, hml, hown, hts⟩ (mtX5_things l D cI cJ cS H.size m_h m_now_a m_tape_a m_read_a m_heard_a m_undone_a m_aside_a m_kept_a m_lanes_a m_sizes_a m_items_a m_moved_a m_now m_typed m_place m_isFault m_undos m_keptUndos m_isKept a1 (1 : Int32) F r13 hc14) (cwV 2 hts gX5_of_X5_things rfl rfl rfl (by decide +kernel) ⟨Nat.le_trans (by decide) hRf, Nat.le_trans (by decide) hRl⟩) hK hN hP hD hS hA [0, 1] [] rfl (by decide) rfl (by decide) (by decide) rfl rfl rfl rfl hl.1 rfl (Nat.le_of_ble_eq_true rfl) dX5_of_75 hRc (fun H locs hP hD hS => ?_)
            have hP : va_P D vwCl [(m_h, .inr (5, [.ref m_now_a, .ref m_tape_a, .int m_typed, .int m_place, .int m_isFault, .ref m_read_a, .ref m_heard_a, .ref m_undone_a, .int m_undos, .ref m_aside_a, .ref m_kept_a, .int m_keptUndos, .int m_isKept, .ref m_lanes_a, .ref m_sizes_a, .ref m_items_a, .ref m_moved_a])), (m_now_a, .inl (cI, 65, .inl m_now))] H := hP
            have hD : va_D A [(m_h, .inr (5, [.ref m_now_a, .ref m_tape_a, .int m_typed, .int m_place, .int m_isFault, .ref m_read_a, .ref m_heard_a, .ref m_undone_a, .int m_undos, .ref m_aside_a, .ref m_kept_a, .int m_keptUndos, .int m_isKept, .ref m_lanes_a, .ref m_sizes_a, .ref m_items_a, .ref m_moved_a])), (m_now_a, .inl (cI, 65, .inl m_now))] := hD
            obtain rfl := sx_o1 hM
            exact hret _ _ _ _ dX5_of_78 (hP.sub [0, 1] rfl) (hD.sub [0, 1] (by decide) rfl) hS
          · replace hM := sx_iff c12 hM
            have c12t : ¬ a2.toInt = 2 := fun h => c12 (Int32.toInt_inj.mp (h.trans (by decide)))
            by_cases c15 : a2 = (3 : Int32)
            · replace hM := sx_ift c15 hM
              refine lv_tableIn (off := 56) (tgt := 79) hx hb dX5_of_23 (by rw [c15]; decide) (by rw [c15]; decide) (by rw [c15]; decide) (by decide) ?_
              refine lv_aload_n hx hb dX5_of_79 rfl (lv_at hl 0 rfl) ?_
              refine lv_iload_n hx hb dX5_of_80 rfl (lv_at hl 1 rfl) ?_
              obtain ⟨r16, hc17, hM⟩ := sx_c1_s hM
              refine sx_iV (As := [.int a1]) (rest := []) (wc := [(m_h, .inr (5, [.ref m_now_a, .ref m_tape_a, .int m_typed, .int m_place, .int m_isFault, .ref m_read_a, .ref m_heard_a, .ref m_undone_a, .int m_undos, .ref m_aside_a, .ref m_kept_a, .int m_keptUndos, .int m_isKept, .ref m_lanes_a, .ref m_sizes_a, .ref m_items_a, .ref m_moved_a])), (m_now_a, .inl (cI, 65, .inl m_now))]) (wr := []) (w1 := [(m_h, .inr (5, [.ref m_now_a, .ref m_tape_a, .int m_typed, .int m_place, .int m_isFault, .ref m_read_a, .ref m_heard_a, .ref m_undone_a, .int m_undos, .ref m_aside_a, .ref m_kept_a, .int m_keptUndos, .int m_isKept, .ref m_lanes_a, .ref m_sizes_a, .ref m_items_a, .ref m_moved_a])), (m_now_a, .inl (cI, 65, .inl m_now))]) ⟨hx, hb, hml, hown, hts⟩ (mtX5_rank l D cI cJ cS H.size m_h m_now_a m_tape_a m_read_a m_heard_a m_undone_a m_aside_a m_kept_a m_lanes_a m_sizes_a m_items_a m_moved_a m_now m_typed m_place m_isFault m_undos m_keptUndos m_isKept a1 F r16 hc17) (cwV 1 hts gX5_of_X5_rank rfl rfl rfl (by decide +kernel) ⟨Nat.le_trans (by decide) hRf, Nat.le_trans (by decide) hRl⟩) hK hN hP hD hS hA [0, 1] [] rfl (by decide) rfl (by decide) (by decide) rfl rfl rfl rfl hl.1 rfl (Nat.le_of_ble_eq_true rfl) dX5_of_81 hRc (fun H locs hP hD hS => ?_)
              have hP : va_P D vwCl [(m_h, .inr (5, [.ref m_now_a, .ref m_tape_a, .int m_typed, .int m_place, .int m_isFault, .ref m_read_a, .ref m_heard_a, .ref m_undone_a, .int m_undos, .ref m_aside_a, .ref m_kept_a, .int m_keptUndos, .int m_isKept, .ref m_lanes_a, .ref m_sizes_a, .ref m_items_a, .ref m_moved_a])), (m_now_a, .inl (cI, 65, .inl m_now))] H := hP
              have hD : va_D A [(m_h, .inr (5, [.ref m_now_a, .ref m_tape_a, .int m_typed, .int m_place, .int m_isFault, .ref m_read_a, .ref m_heard_a, .ref m_undone_a, .int m_undos, .ref m_aside_a, .ref m_kept_a, .int m_keptUndos, .int m_isKept, .ref m_lanes_a, .ref m_sizes_a, .ref m_items_a, .ref m_moved_a])), (m_now_a, .inl (cI, 65, .inl m_now))] := hD
              obtain rfl := sx_o1 hM
              exact hret _ _ _ _ dX5_of_84 (hP.sub [0, 1] rfl) (hD.sub [0, 1] (by decide) rfl) hS
            · replace hM := sx_iff c15 hM
              have c15t : ¬ a2.toInt = 3 := fun h => c15 (Int32.toInt_inj.mp (h.trans (by decide)))
              by_cases c18 : a2 = (4 : Int32)
              · replace hM := sx_ift c18 hM
                refine lv_tableIn (off := 62) (tgt := 85) hx hb dX5_of_23 (by rw [c18]; decide) (by rw [c18]; decide) (by rw [c18]; decide) (by decide) ?_
                refine lv_aload_n hx hb dX5_of_85 rfl (lv_at hl 0 rfl) ?_
                refine lv_iload_n hx hb dX5_of_86 rfl (lv_at hl 1 rfl) ?_
                refine lv_iconst (v := 1) hx hb dX5_of_87 (by decide) ?_
                obtain ⟨r19, hc20, hM⟩ := sx_c1_s hM
                refine sx_iV (As := [.int a1, .int (1 : Int32)]) (rest := []) (wc := [(m_h, .inr (5, [.ref m_now_a, .ref m_tape_a, .int m_typed, .int m_place, .int m_isFault, .ref m_read_a, .ref m_heard_a, .ref m_undone_a, .int m_undos, .ref m_aside_a, .ref m_kept_a, .int m_keptUndos, .int m_isKept, .ref m_lanes_a, .ref m_sizes_a, .ref m_items_a, .ref m_moved_a])), (m_now_a, .inl (cI, 65, .inl m_now))]) (wr := []) (w1 := [(m_h, .inr (5, [.ref m_now_a, .ref m_tape_a, .int m_typed, .int m_place, .int m_isFault, .ref m_read_a, .ref m_heard_a, .ref m_undone_a, .int m_undos, .ref m_aside_a, .ref m_kept_a, .int m_keptUndos, .int m_isKept, .ref m_lanes_a, .ref m_sizes_a, .ref m_items_a, .ref m_moved_a])), (m_now_a, .inl (cI, 65, .inl m_now))]) ⟨hx, hb, hml, hown, hts⟩ (mtX5_beside l D cI cJ cS H.size m_h m_now_a m_tape_a m_read_a m_heard_a m_undone_a m_aside_a m_kept_a m_lanes_a m_sizes_a m_items_a m_moved_a m_now m_typed m_place m_isFault m_undos m_keptUndos m_isKept a1 (1 : Int32) F r19 hc20) (cwV 2 hts gX5_of_X5_beside rfl rfl rfl (by decide +kernel) ⟨Nat.le_trans (by decide) hRf, Nat.le_trans (by decide) hRl⟩) hK hN hP hD hS hA [0, 1] [] rfl (by decide) rfl (by decide) (by decide) rfl rfl rfl rfl hl.1 rfl (Nat.le_of_ble_eq_true rfl) dX5_of_88 hRc (fun H locs hP hD hS => ?_)
                have hP : va_P D vwCl [(m_h, .inr (5, [.ref m_now_a, .ref m_tape_a, .int m_typed, .int m_place, .int m_isFault, .ref m_read_a, .ref m_heard_a, .ref m_undone_a, .int m_undos, .ref m_aside_a, .ref m_kept_a, .int m_keptUndos, .int m_isKept, .ref m_lanes_a, .ref m_sizes_a, .ref m_items_a, .ref m_moved_a])), (m_now_a, .inl (cI, 65, .inl m_now))] H := hP
                have hD : va_D A [(m_h, .inr (5, [.ref m_now_a, .ref m_tape_a, .int m_typed, .int m_place, .int m_isFault, .ref m_read_a, .ref m_heard_a, .ref m_undone_a, .int m_undos, .ref m_aside_a, .ref m_kept_a, .int m_keptUndos, .int m_isKept, .ref m_lanes_a, .ref m_sizes_a, .ref m_items_a, .ref m_moved_a])), (m_now_a, .inl (cI, 65, .inl m_now))] := hD
                obtain rfl := sx_o1 hM
                exact hret _ _ _ _ dX5_of_91 (hP.sub [0, 1] rfl) (hD.sub [0, 1] (by decide) rfl) hS
              · replace hM := sx_iff c18 hM
                have c18t : ¬ a2.toInt = 4 := fun h => c18 (Int32.toInt_inj.mp (h.trans (by decide)))
                refine lv_tableOut (tgt := 92) hx hb dX5_of_23 (by omega) (by decide) ?_
                refine lv_aload_n hx hb dX5_of_92 rfl (lv_at hl 0 rfl) ?_
                refine lv_iload_n hx hb dX5_of_93 rfl (lv_at hl 1 rfl) ?_
                refine lv_aload_n hx hb dX5_of_94 rfl (lv_at hl 0 rfl) ?_
                refine va_get (D := D) (ci := 5) (v := .ref m_now_a) (C := RX5) (T := TX5) (N := 17) hx hb hts hin_X5 hown hK hP 0 rfl rfl 0 (by decide) hf_7 (fun _ h9 => h9) rfl dX5_of_95 ?_
                refine lv_iconst (v := 0) hx hb dX5_of_98 (by decide) ?_
                refine va_iald hx hb hK hP 1 0 rfl rfl (sx_ib_s (by decide)) dX5_of_99 ?_
                refine lv_iconst (v := 1) hx hb dX5_of_100 (by decide) ?_
                refine lv_isub hx hb dX5_of_101 ?_
                obtain ⟨r21, hc22, hM⟩ := sx_c1_s hM
                refine sx_iV (As := [.int a1, .int ((m_now ((0 : Int32)).toNatClampNeg) - (1 : Int32))]) (rest := []) (wc := [(m_h, .inr (5, [.ref m_now_a, .ref m_tape_a, .int m_typed, .int m_place, .int m_isFault, .ref m_read_a, .ref m_heard_a, .ref m_undone_a, .int m_undos, .ref m_aside_a, .ref m_kept_a, .int m_keptUndos, .int m_isKept, .ref m_lanes_a, .ref m_sizes_a, .ref m_items_a, .ref m_moved_a])), (m_now_a, .inl (cI, 65, .inl m_now))]) (wr := []) (w1 := [(m_h, .inr (5, [.ref m_now_a, .ref m_tape_a, .int m_typed, .int m_place, .int m_isFault, .ref m_read_a, .ref m_heard_a, .ref m_undone_a, .int m_undos, .ref m_aside_a, .ref m_kept_a, .int m_keptUndos, .int m_isKept, .ref m_lanes_a, .ref m_sizes_a, .ref m_items_a, .ref m_moved_a])), (m_now_a, .inl (cI, 65, .inl m_now))]) ⟨hx, hb, hml, hown, hts⟩ (mtX5_beside l D cI cJ cS H.size m_h m_now_a m_tape_a m_read_a m_heard_a m_undone_a m_aside_a m_kept_a m_lanes_a m_sizes_a m_items_a m_moved_a m_now m_typed m_place m_isFault m_undos m_keptUndos m_isKept a1 ((m_now ((0 : Int32)).toNatClampNeg) - (1 : Int32)) F r21 hc22) (cwV 2 hts gX5_of_X5_beside rfl rfl rfl (by decide +kernel) ⟨Nat.le_trans (by decide) hRf, Nat.le_trans (by decide) hRl⟩) hK hN hP hD hS hA [0, 1] [] rfl (by decide) rfl (by decide) (by decide) rfl rfl rfl rfl hl.1 rfl (Nat.le_of_ble_eq_true rfl) dX5_of_102 hRc (fun H locs hP hD hS => ?_)
                have hP : va_P D vwCl [(m_h, .inr (5, [.ref m_now_a, .ref m_tape_a, .int m_typed, .int m_place, .int m_isFault, .ref m_read_a, .ref m_heard_a, .ref m_undone_a, .int m_undos, .ref m_aside_a, .ref m_kept_a, .int m_keptUndos, .int m_isKept, .ref m_lanes_a, .ref m_sizes_a, .ref m_items_a, .ref m_moved_a])), (m_now_a, .inl (cI, 65, .inl m_now))] H := hP
                have hD : va_D A [(m_h, .inr (5, [.ref m_now_a, .ref m_tape_a, .int m_typed, .int m_place, .int m_isFault, .ref m_read_a, .ref m_heard_a, .ref m_undone_a, .int m_undos, .ref m_aside_a, .ref m_kept_a, .int m_keptUndos, .int m_isKept, .ref m_lanes_a, .ref m_sizes_a, .ref m_items_a, .ref m_moved_a])), (m_now_a, .inl (cI, 65, .inl m_now))] := hD
                obtain rfl := sx_o1 hM
                exact hret _ _ _ _ dX5_of_105 (hP.sub [0, 1] rfl) (hD.sub [0, 1] (by decide) rfl) hS
    · replace hM := sx_ift c6 hM
      refine lv_iconst (v := -1) hx hb dX5_of_20 (by decide) ?_
      obtain rfl := sx_o1 hM
      exact hret _ _ _ _ dX5_of_21 (hP.sub [0, 1] rfl) (hD.sub [0, 1] (by decide) rfl) hS
set_option maxHeartbeats 4000000 in
set_option maxRecDepth 100000 in
theorem mtX5_of (l : Launch) (D : va_G) (cI cJ cS : ClassId) (sz : Nat) (m_h m_now_a m_tape_a m_read_a m_heard_a m_undone_a m_aside_a m_kept_a m_lanes_a m_sizes_a m_items_a m_moved_a : Nat) (m_now : Nat → Int32) (m_typed : Int32) (m_place : Int32) (m_isFault : Int32) (m_undos : Int32) (m_keptUndos : Int32) (m_isKept : Int32) (a1 : Int32) (a2 : Int32) (F : Nat) (r0 : Int32) (hM : fnX5_of F m_now a1 a2 = some r0) : sx_MI l yX5_of wsX5_of ({ frames := 3, cells := 0, slots := 0, locals := 68 }) D (sx_T cI cJ cS) sz [.ref m_h, .int a1, .int a2] [(m_h, .inr (5, [.ref m_now_a, .ref m_tape_a, .int m_typed, .int m_place, .int m_isFault, .ref m_read_a, .ref m_heard_a, .ref m_undone_a, .int m_undos, .ref m_aside_a, .ref m_kept_a, .int m_keptUndos, .int m_isKept, .ref m_lanes_a, .ref m_sizes_a, .ref m_items_a, .ref m_moved_a])), (m_now_a, .inl (cI, 65, .inl m_now))] r0 [(m_h, .inr (5, [.ref m_now_a, .ref m_tape_a, .int m_typed, .int m_place, .int m_isFault, .ref m_read_a, .ref m_heard_a, .ref m_undone_a, .int m_undos, .ref m_aside_a, .ref m_kept_a, .int m_keptUndos, .int m_isKept, .ref m_lanes_a, .ref m_sizes_a, .ref m_items_a, .ref m_moved_a])), (m_now_a, .inl (cI, 65, .inl m_now))] := by
  refine Met.ofW (cc := cX5_of) (maxL := 3) (ret := (some .int)) (by decide) rfl ?_
  intro p e s m args below meth c s₁ B hml hv
  obtain ⟨rfl, hsz, hN, hP, hK, hD0⟩ := hv
  subst hsz
  have hl := lv_entry ([.ref m_h, .int a1, .int a2]) (n := 3) (Nat.le_of_ble_eq_true rfl)
  rw [lg_entry_eq]
  generalize (lg_sl ([.ref m_h, .int a1, .int a2]) ++ List.replicate (3 - (lg_sl ([.ref m_h, .int a1, .int a2])).length) Slot.unset).toArray = ls at hl ⊢
  exact kwX5_of B.exec B.bytes hml (findClass_of_methodNamed B.named) (atoms_spec (ws := wsX5_of) B.pre) hN hK (fun q h => Or.inr h) (by decide) (by decide) ⟨Nat.zero_le _, Nat.zero_le _⟩ m_h m_now_a m_tape_a m_read_a m_heard_a m_undone_a m_aside_a m_kept_a m_lanes_a m_sizes_a m_items_a m_moved_a m_now m_typed m_place m_isFault m_undos m_keptUndos m_isKept a1 a2 F r0 hM _ _ _ hl hP hD0.self va_S.rf (fun H1 locs1 ls1 pc1 hd hP hD hS => W.iret (v := r0) B.exec B.bytes B.returns (fun t ht hW => ⟨⟨r0, (), rfl, rfl, by rw [ht]; exact hP, hD⟩, hS.F ht⟩) hS.2.2 hd)

def fnX5_strength (F : Nat) (m_now : Nat → Int32) (a1 : Int32) (a2 : Int32) : Option (Int32) :=
  sx_c1 (fnX5_isPerson F m_now a1) (fun (r1 : Int32) => (if r1 = 0 then (some ((-1 : Int32))) else sx_c1 (fnX5_isThing F a2) (fun (r4 : Int32) => (if r4 = 0 then (some ((-1 : Int32))) else sx_c1 (fnX5_knows F m_now a1 a2) (fun (r7 : Int32) => (if r7 = 0 then (some ((-4 : Int32))) else sx_c1 (fnX5_sealOf F m_now a1 a2) (fun (r10 : Int32) => (some (r10)))))))))
set_option maxHeartbeats 4000000 in
set_option maxRecDepth 100000 in
theorem kwX5_strength {p : Program} {l : Launch} {e : Env} {R : Room} {s : State} {m : MethodId} {args : Array Value} {below : List Frame} {meth : Method} {c : Code} {cells slots : Nat} {Q : State → Prop} {A : Nat → Prop} {H0 : Heap} {D : va_G} {cI cJ cS : ClassId} (hx : p.tables.exec = Jvm.exec) (hb : c.code = cX5_strength) (hml : c.maxLocals = 3) (hown : s.vm.findClass RX5 = some m.cls) (hts : ∀ w ∈ wsX5_strength, w.before args s = true) (hN : sx_N s) (hK : va_K D vwCl (sx_T cI cJ cS) s) (hA : ∀ q, H0.size ≤ q → A q) (hRf : 2 ≤ R.frames) (hRl : 46 ≤ R.locals) (hRc : cells ≤ R.cells ∧ slots ≤ R.slots) (m_h m_now_a m_tape_a m_read_a m_heard_a m_undone_a m_aside_a m_kept_a m_lanes_a m_sizes_a m_items_a m_moved_a : Nat) (m_now : Nat → Int32) (m_typed : Int32) (m_place : Int32) (m_isFault : Int32) (m_undos : Int32) (m_keptUndos : Int32) (m_isKept : Int32) (a1 : Int32) (a2 : Int32) (F : Nat) (r0 : Int32) (hM : fnX5_strength F m_now a1 a2 = some r0) (H : Heap) (locs : List Loc) (ls : Array Slot) (hl : lv_has ls 3 [(0, .ref m_h), (1, .int a1), (2, .int a2)]) (hP : va_P D vwCl [(m_h, .inr (5, [.ref m_now_a, .ref m_tape_a, .int m_typed, .int m_place, .int m_isFault, .ref m_read_a, .ref m_heard_a, .ref m_undone_a, .int m_undos, .ref m_aside_a, .ref m_kept_a, .int m_keptUndos, .int m_isKept, .ref m_lanes_a, .ref m_sizes_a, .ref m_items_a, .ref m_moved_a])), (m_now_a, .inl (cI, 65, .inl m_now))] H) (hD : va_D A [(m_h, .inr (5, [.ref m_now_a, .ref m_tape_a, .int m_typed, .int m_place, .int m_isFault, .ref m_read_a, .ref m_heard_a, .ref m_undone_a, .int m_undos, .ref m_aside_a, .ref m_kept_a, .int m_keptUndos, .int m_isKept, .ref m_lanes_a, .ref m_sizes_a, .ref m_items_a, .ref m_moved_a])), (m_now_a, .inl (cI, 65, .inl m_now))]) (hS : va_S A H0 H locs)
    (hret : ∀ (H1 : Heap) (locs1 : List Loc) (ls1 : Array Slot) (pc1 : Nat), decode cX5_strength pc1 = .ok (.ireturn, 1) → va_P D vwCl [(m_h, .inr (5, [.ref m_now_a, .ref m_tape_a, .int m_typed, .int m_place, .int m_isFault, .ref m_read_a, .ref m_heard_a, .ref m_undone_a, .int m_undos, .ref m_aside_a, .ref m_kept_a, .int m_keptUndos, .int m_isKept, .ref m_lanes_a, .ref m_sizes_a, .ref m_items_a, .ref m_moved_a])), (m_now_a, .inl (cI, 65, .inl m_now))] H1 → va_D A [(m_h, .inr (5, [.ref m_now_a, .ref m_tape_a, .int m_typed, .int m_place, .int m_isFault, .ref m_read_a, .ref m_heard_a, .ref m_undone_a, .int m_undos, .ref m_aside_a, .ref m_kept_a, .int m_keptUndos, .int m_isKept, .ref m_lanes_a, .ref m_sizes_a, .ref m_items_a, .ref m_moved_a])), (m_now_a, .inl (cI, 65, .inl m_now))] → va_S A H0 H1 locs1 → W p l e R s m args below meth c H1 locs1 cells slots Q (F0 m pc1 ls1 [.int r0])) : W p l e R s m args below meth c H locs cells slots Q (F0 m 0 ls []) := by
  unfold fnX5_strength at hM
  refine lv_aload_n hx hb dX5_strength_0 rfl (lv_at hl 0 rfl) ?_
  refine lv_iload_n hx hb dX5_strength_1 rfl (lv_at hl 1 rfl) ?_
  obtain ⟨r1, hc2, hM⟩ := sx_c1_s hM
  refine sx_iV (As := [.int a1]) (rest := []) (wc := [(m_h, .inr (5, [.ref m_now_a, .ref m_tape_a, .int m_typed, .int m_place, .int m_isFault, .ref m_read_a, .ref m_heard_a, .ref m_undone_a, .int m_undos, .ref m_aside_a, .ref m_kept_a, .int m_keptUndos, .int m_isKept, .ref m_lanes_a, .ref m_sizes_a, .ref m_items_a, .ref m_moved_a])), (m_now_a, .inl (cI, 65, .inl m_now))]) (wr := []) (w1 := [(m_h, .inr (5, [.ref m_now_a, .ref m_tape_a, .int m_typed, .int m_place, .int m_isFault, .ref m_read_a, .ref m_heard_a, .ref m_undone_a, .int m_undos, .ref m_aside_a, .ref m_kept_a, .int m_keptUndos, .int m_isKept, .ref m_lanes_a, .ref m_sizes_a, .ref m_items_a, .ref m_moved_a])), (m_now_a, .inl (cI, 65, .inl m_now))]) ⟨hx, hb, hml, hown, hts⟩ (mtX5_isPerson l D cI cJ cS H.size m_h m_now_a m_tape_a m_read_a m_heard_a m_undone_a m_aside_a m_kept_a m_lanes_a m_sizes_a m_items_a m_moved_a m_now m_typed m_place m_isFault m_undos m_keptUndos m_isKept a1 F r1 hc2) (cwV 1 hts gX5_strength_X5_isPerson rfl rfl rfl (by decide +kernel) ⟨Nat.le_trans (by decide) hRf, Nat.le_trans (by decide) hRl⟩) hK hN hP hD hS hA [0, 1] [] rfl (by decide) rfl (by decide) (by decide) rfl rfl rfl rfl hl.1 rfl (Nat.le_of_ble_eq_true rfl) dX5_strength_2 hRc (fun H locs hP hD hS => ?_)
  have hP : va_P D vwCl [(m_h, .inr (5, [.ref m_now_a, .ref m_tape_a, .int m_typed, .int m_place, .int m_isFault, .ref m_read_a, .ref m_heard_a, .ref m_undone_a, .int m_undos, .ref m_aside_a, .ref m_kept_a, .int m_keptUndos, .int m_isKept, .ref m_lanes_a, .ref m_sizes_a, .ref m_items_a, .ref m_moved_a])), (m_now_a, .inl (cI, 65, .inl m_now))] H := hP
  have hD : va_D A [(m_h, .inr (5, [.ref m_now_a, .ref m_tape_a, .int m_typed, .int m_place, .int m_isFault, .ref m_read_a, .ref m_heard_a, .ref m_undone_a, .int m_undos, .ref m_aside_a, .ref m_kept_a, .int m_keptUndos, .int m_isKept, .ref m_lanes_a, .ref m_sizes_a, .ref m_items_a, .ref m_moved_a])), (m_now_a, .inl (cI, 65, .inl m_now))] := hD
  refine lv_if_eq (tgt := 15) hx hb dX5_strength_5 (by decide) (fun c3 => ?_) (fun c3 => ?_)
  · replace hM := sx_ift c3 hM
    refine lv_iconst (v := -1) hx hb dX5_strength_15 (by decide) ?_
    obtain rfl := sx_o1 hM
    exact hret _ _ _ _ dX5_strength_16 (hP.sub [0, 1] rfl) (hD.sub [0, 1] (by decide) rfl) hS
  · replace hM := sx_iff c3 hM
    refine lv_iload_n hx hb dX5_strength_8 rfl (lv_at hl 2 rfl) ?_
    obtain ⟨r4, hc5, hM⟩ := sx_c1_s hM
    refine sx_iS (As := [.int a2]) (rest := []) (wc := []) (wr := [(m_h, .inr (5, [.ref m_now_a, .ref m_tape_a, .int m_typed, .int m_place, .int m_isFault, .ref m_read_a, .ref m_heard_a, .ref m_undone_a, .int m_undos, .ref m_aside_a, .ref m_kept_a, .int m_keptUndos, .int m_isKept, .ref m_lanes_a, .ref m_sizes_a, .ref m_items_a, .ref m_moved_a])), (m_now_a, .inl (cI, 65, .inl m_now))]) (w1 := []) ⟨hx, hb, hml, hown, hts⟩ (mtX5_isThing l D cI cJ cS H.size a2 F r4 hc5) (va_cwS 1 hts gX5_strength_X5_isThing rfl rfl rfl (by decide +kernel) ⟨Nat.le_trans (by decide) hRf, Nat.le_trans (by decide) hRl⟩) hK hN hP hD hS hA [] [0, 1] rfl (by decide) rfl (by decide) (by decide) rfl hl.1 rfl (Nat.le_of_ble_eq_true rfl) dX5_strength_9 hRc (fun H locs hP hD hS => ?_)
    have hP : va_P D vwCl [(m_h, .inr (5, [.ref m_now_a, .ref m_tape_a, .int m_typed, .int m_place, .int m_isFault, .ref m_read_a, .ref m_heard_a, .ref m_undone_a, .int m_undos, .ref m_aside_a, .ref m_kept_a, .int m_keptUndos, .int m_isKept, .ref m_lanes_a, .ref m_sizes_a, .ref m_items_a, .ref m_moved_a])), (m_now_a, .inl (cI, 65, .inl m_now))] H := hP
    have hD : va_D A [(m_h, .inr (5, [.ref m_now_a, .ref m_tape_a, .int m_typed, .int m_place, .int m_isFault, .ref m_read_a, .ref m_heard_a, .ref m_undone_a, .int m_undos, .ref m_aside_a, .ref m_kept_a, .int m_keptUndos, .int m_isKept, .ref m_lanes_a, .ref m_sizes_a, .ref m_items_a, .ref m_moved_a])), (m_now_a, .inl (cI, 65, .inl m_now))] := hD
    refine lv_if_ne (tgt := 17) hx hb dX5_strength_12 (by decide) (fun c6 => ?_) (fun c6 => ?_)
    · replace hM := sx_iff c6 hM
      refine lv_aload_n hx hb dX5_strength_17 rfl (lv_at hl 0 rfl) ?_
      refine lv_iload_n hx hb dX5_strength_18 rfl (lv_at hl 1 rfl) ?_
      refine lv_iload_n hx hb dX5_strength_19 rfl (lv_at hl 2 rfl) ?_
      obtain ⟨r7, hc8, hM⟩ := sx_c1_s hM
      refine sx_iV (As := [.int a1, .int a2]) (rest := []) (wc := [(m_h, .inr (5, [.ref m_now_a, .ref m_tape_a, .int m_typed, .int m_place, .int m_isFault, .ref m_read_a, .ref m_heard_a, .ref m_undone_a, .int m_undos, .ref m_aside_a, .ref m_kept_a, .int m_keptUndos, .int m_isKept, .ref m_lanes_a, .ref m_sizes_a, .ref m_items_a, .ref m_moved_a])), (m_now_a, .inl (cI, 65, .inl m_now))]) (wr := []) (w1 := [(m_h, .inr (5, [.ref m_now_a, .ref m_tape_a, .int m_typed, .int m_place, .int m_isFault, .ref m_read_a, .ref m_heard_a, .ref m_undone_a, .int m_undos, .ref m_aside_a, .ref m_kept_a, .int m_keptUndos, .int m_isKept, .ref m_lanes_a, .ref m_sizes_a, .ref m_items_a, .ref m_moved_a])), (m_now_a, .inl (cI, 65, .inl m_now))]) ⟨hx, hb, hml, hown, hts⟩ (mtX5_knows l D cI cJ cS H.size m_h m_now_a m_tape_a m_read_a m_heard_a m_undone_a m_aside_a m_kept_a m_lanes_a m_sizes_a m_items_a m_moved_a m_now m_typed m_place m_isFault m_undos m_keptUndos m_isKept a1 a2 F r7 hc8) (cwV 2 hts gX5_strength_X5_knows rfl rfl rfl (by decide +kernel) ⟨Nat.le_trans (by decide) hRf, Nat.le_trans (by decide) hRl⟩) hK hN hP hD hS hA [0, 1] [] rfl (by decide) rfl (by decide) (by decide) rfl rfl rfl rfl hl.1 rfl (Nat.le_of_ble_eq_true rfl) dX5_strength_20 hRc (fun H locs hP hD hS => ?_)
      have hP : va_P D vwCl [(m_h, .inr (5, [.ref m_now_a, .ref m_tape_a, .int m_typed, .int m_place, .int m_isFault, .ref m_read_a, .ref m_heard_a, .ref m_undone_a, .int m_undos, .ref m_aside_a, .ref m_kept_a, .int m_keptUndos, .int m_isKept, .ref m_lanes_a, .ref m_sizes_a, .ref m_items_a, .ref m_moved_a])), (m_now_a, .inl (cI, 65, .inl m_now))] H := hP
      have hD : va_D A [(m_h, .inr (5, [.ref m_now_a, .ref m_tape_a, .int m_typed, .int m_place, .int m_isFault, .ref m_read_a, .ref m_heard_a, .ref m_undone_a, .int m_undos, .ref m_aside_a, .ref m_kept_a, .int m_keptUndos, .int m_isKept, .ref m_lanes_a, .ref m_sizes_a, .ref m_items_a, .ref m_moved_a])), (m_now_a, .inl (cI, 65, .inl m_now))] := hD
      refine lv_if_eq (tgt := 35) hx hb dX5_strength_23 (by decide) (fun c9 => ?_) (fun c9 => ?_)
      · replace hM := sx_ift c9 hM
        refine lv_bipush (v := -4) hx hb dX5_strength_35 (by decide) ?_
        obtain rfl := sx_o1 hM
        exact hret _ _ _ _ dX5_strength_37 (hP.sub [0, 1] rfl) (hD.sub [0, 1] (by decide) rfl) hS
      · replace hM := sx_iff c9 hM
        refine lv_aload_n hx hb dX5_strength_26 rfl (lv_at hl 0 rfl) ?_
        refine lv_iload_n hx hb dX5_strength_27 rfl (lv_at hl 1 rfl) ?_
        refine lv_iload_n hx hb dX5_strength_28 rfl (lv_at hl 2 rfl) ?_
        obtain ⟨r10, hc11, hM⟩ := sx_c1_s hM
        refine sx_iV (As := [.int a1, .int a2]) (rest := []) (wc := [(m_h, .inr (5, [.ref m_now_a, .ref m_tape_a, .int m_typed, .int m_place, .int m_isFault, .ref m_read_a, .ref m_heard_a, .ref m_undone_a, .int m_undos, .ref m_aside_a, .ref m_kept_a, .int m_keptUndos, .int m_isKept, .ref m_lanes_a, .ref m_sizes_a, .ref m_items_a, .ref m_moved_a])), (m_now_a, .inl (cI, 65, .inl m_now))]) (wr := []) (w1 := [(m_h, .inr (5, [.ref m_now_a, .ref m_tape_a, .int m_typed, .int m_place, .int m_isFault, .ref m_read_a, .ref m_heard_a, .ref m_undone_a, .int m_undos, .ref m_aside_a, .ref m_kept_a, .int m_keptUndos, .int m_isKept, .ref m_lanes_a, .ref m_sizes_a, .ref m_items_a, .ref m_moved_a])), (m_now_a, .inl (cI, 65, .inl m_now))]) ⟨hx, hb, hml, hown, hts⟩ (mtX5_sealOf l D cI cJ cS H.size m_h m_now_a m_tape_a m_read_a m_heard_a m_undone_a m_aside_a m_kept_a m_lanes_a m_sizes_a m_items_a m_moved_a m_now m_typed m_place m_isFault m_undos m_keptUndos m_isKept a1 a2 F r10 hc11) (cwV 2 hts gX5_strength_X5_sealOf rfl rfl rfl (by decide +kernel) ⟨Nat.le_trans (by decide) hRf, Nat.le_trans (by decide) hRl⟩) hK hN hP hD hS hA [0, 1] [] rfl (by decide) rfl (by decide) (by decide) rfl rfl rfl rfl hl.1 rfl (Nat.le_of_ble_eq_true rfl) dX5_strength_29 hRc (fun H locs hP hD hS => ?_)
        have hP : va_P D vwCl [(m_h, .inr (5, [.ref m_now_a, .ref m_tape_a, .int m_typed, .int m_place, .int m_isFault, .ref m_read_a, .ref m_heard_a, .ref m_undone_a, .int m_undos, .ref m_aside_a, .ref m_kept_a, .int m_keptUndos, .int m_isKept, .ref m_lanes_a, .ref m_sizes_a, .ref m_items_a, .ref m_moved_a])), (m_now_a, .inl (cI, 65, .inl m_now))] H := hP
        have hD : va_D A [(m_h, .inr (5, [.ref m_now_a, .ref m_tape_a, .int m_typed, .int m_place, .int m_isFault, .ref m_read_a, .ref m_heard_a, .ref m_undone_a, .int m_undos, .ref m_aside_a, .ref m_kept_a, .int m_keptUndos, .int m_isKept, .ref m_lanes_a, .ref m_sizes_a, .ref m_items_a, .ref m_moved_a])), (m_now_a, .inl (cI, 65, .inl m_now))] := hD
        refine lv_goto (tgt := 37) hx hb dX5_strength_32 (by decide) ?_
        obtain rfl := sx_o1 hM
        exact hret _ _ _ _ dX5_strength_37 (hP.sub [0, 1] rfl) (hD.sub [0, 1] (by decide) rfl) hS
    · replace hM := sx_ift c6 hM
      refine lv_iconst (v := -1) hx hb dX5_strength_15 (by decide) ?_
      obtain rfl := sx_o1 hM
      exact hret _ _ _ _ dX5_strength_16 (hP.sub [0, 1] rfl) (hD.sub [0, 1] (by decide) rfl) hS
set_option maxHeartbeats 4000000 in
set_option maxRecDepth 100000 in
theorem mtX5_strength (l : Launch) (D : va_G) (cI cJ cS : ClassId) (sz : Nat) (m_h m_now_a m_tape_a m_read_a m_heard_a m_undone_a m_aside_a m_kept_a m_lanes_a m_sizes_a m_items_a m_moved_a : Nat) (m_now : Nat → Int32) (m_typed : Int32) (m_place : Int32) (m_isFault : Int32) (m_undos : Int32) (m_keptUndos : Int32) (m_isKept : Int32) (a1 : Int32) (a2 : Int32) (F : Nat) (r0 : Int32) (hM : fnX5_strength F m_now a1 a2 = some r0) : sx_MI l yX5_strength wsX5_strength ({ frames := 2, cells := 0, slots := 0, locals := 46 }) D (sx_T cI cJ cS) sz [.ref m_h, .int a1, .int a2] [(m_h, .inr (5, [.ref m_now_a, .ref m_tape_a, .int m_typed, .int m_place, .int m_isFault, .ref m_read_a, .ref m_heard_a, .ref m_undone_a, .int m_undos, .ref m_aside_a, .ref m_kept_a, .int m_keptUndos, .int m_isKept, .ref m_lanes_a, .ref m_sizes_a, .ref m_items_a, .ref m_moved_a])), (m_now_a, .inl (cI, 65, .inl m_now))] r0 [(m_h, .inr (5, [.ref m_now_a, .ref m_tape_a, .int m_typed, .int m_place, .int m_isFault, .ref m_read_a, .ref m_heard_a, .ref m_undone_a, .int m_undos, .ref m_aside_a, .ref m_kept_a, .int m_keptUndos, .int m_isKept, .ref m_lanes_a, .ref m_sizes_a, .ref m_items_a, .ref m_moved_a])), (m_now_a, .inl (cI, 65, .inl m_now))] := by
  refine Met.ofW (cc := cX5_strength) (maxL := 3) (ret := (some .int)) (by decide) rfl ?_
  intro p e s m args below meth c s₁ B hml hv
  obtain ⟨rfl, hsz, hN, hP, hK, hD0⟩ := hv
  subst hsz
  have hl := lv_entry ([.ref m_h, .int a1, .int a2]) (n := 3) (Nat.le_of_ble_eq_true rfl)
  rw [lg_entry_eq]
  generalize (lg_sl ([.ref m_h, .int a1, .int a2]) ++ List.replicate (3 - (lg_sl ([.ref m_h, .int a1, .int a2])).length) Slot.unset).toArray = ls at hl ⊢
  exact kwX5_strength B.exec B.bytes hml (findClass_of_methodNamed B.named) (atoms_spec (ws := wsX5_strength) B.pre) hN hK (fun q h => Or.inr h) (by decide) (by decide) ⟨Nat.zero_le _, Nat.zero_le _⟩ m_h m_now_a m_tape_a m_read_a m_heard_a m_undone_a m_aside_a m_kept_a m_lanes_a m_sizes_a m_items_a m_moved_a m_now m_typed m_place m_isFault m_undos m_keptUndos m_isKept a1 a2 F r0 hM _ _ _ hl hP hD0.self va_S.rf (fun H1 locs1 ls1 pc1 hd hP hD hS => W.iret (v := r0) B.exec B.bytes B.returns (fun t ht hW => ⟨⟨r0, (), rfl, rfl, by rw [ht]; exact hP, hD⟩, hS.F ht⟩) hS.2.2 hd)

def fnX5_known (F : Nat) (m_now : Nat → Int32) (a1 : Int32) : Option (Int32) :=
  sx_c1 (fnX5_isThing F a1) (fun (r1 : Int32) => (if r1 = 0 then (some ((-1 : Int32))) else sx_c1 (fnX5_who F m_now a1) (fun (r4 : Int32) => (some (r4)))))
set_option maxHeartbeats 4000000 in
set_option maxRecDepth 100000 in
theorem kwX5_known {p : Program} {l : Launch} {e : Env} {R : Room} {s : State} {m : MethodId} {args : Array Value} {below : List Frame} {meth : Method} {c : Code} {cells slots : Nat} {Q : State → Prop} {A : Nat → Prop} {H0 : Heap} {D : va_G} {cI cJ cS : ClassId} (hx : p.tables.exec = Jvm.exec) (hb : c.code = cX5_known) (hml : c.maxLocals = 2) (hown : s.vm.findClass RX5 = some m.cls) (hts : ∀ w ∈ wsX5_known, w.before args s = true) (hN : sx_N s) (hK : va_K D vwCl (sx_T cI cJ cS) s) (hA : ∀ q, H0.size ≤ q → A q) (hRf : 3 ≤ R.frames) (hRl : 67 ≤ R.locals) (hRc : cells ≤ R.cells ∧ slots ≤ R.slots) (m_h m_now_a m_tape_a m_read_a m_heard_a m_undone_a m_aside_a m_kept_a m_lanes_a m_sizes_a m_items_a m_moved_a : Nat) (m_now : Nat → Int32) (m_typed : Int32) (m_place : Int32) (m_isFault : Int32) (m_undos : Int32) (m_keptUndos : Int32) (m_isKept : Int32) (a1 : Int32) (F : Nat) (r0 : Int32) (hM : fnX5_known F m_now a1 = some r0) (H : Heap) (locs : List Loc) (ls : Array Slot) (hl : lv_has ls 2 [(0, .ref m_h), (1, .int a1)]) (hP : va_P D vwCl [(m_h, .inr (5, [.ref m_now_a, .ref m_tape_a, .int m_typed, .int m_place, .int m_isFault, .ref m_read_a, .ref m_heard_a, .ref m_undone_a, .int m_undos, .ref m_aside_a, .ref m_kept_a, .int m_keptUndos, .int m_isKept, .ref m_lanes_a, .ref m_sizes_a, .ref m_items_a, .ref m_moved_a])), (m_now_a, .inl (cI, 65, .inl m_now))] H) (hD : va_D A [(m_h, .inr (5, [.ref m_now_a, .ref m_tape_a, .int m_typed, .int m_place, .int m_isFault, .ref m_read_a, .ref m_heard_a, .ref m_undone_a, .int m_undos, .ref m_aside_a, .ref m_kept_a, .int m_keptUndos, .int m_isKept, .ref m_lanes_a, .ref m_sizes_a, .ref m_items_a, .ref m_moved_a])), (m_now_a, .inl (cI, 65, .inl m_now))]) (hS : va_S A H0 H locs)
    (hret : ∀ (H1 : Heap) (locs1 : List Loc) (ls1 : Array Slot) (pc1 : Nat), decode cX5_known pc1 = .ok (.ireturn, 1) → va_P D vwCl [(m_h, .inr (5, [.ref m_now_a, .ref m_tape_a, .int m_typed, .int m_place, .int m_isFault, .ref m_read_a, .ref m_heard_a, .ref m_undone_a, .int m_undos, .ref m_aside_a, .ref m_kept_a, .int m_keptUndos, .int m_isKept, .ref m_lanes_a, .ref m_sizes_a, .ref m_items_a, .ref m_moved_a])), (m_now_a, .inl (cI, 65, .inl m_now))] H1 → va_D A [(m_h, .inr (5, [.ref m_now_a, .ref m_tape_a, .int m_typed, .int m_place, .int m_isFault, .ref m_read_a, .ref m_heard_a, .ref m_undone_a, .int m_undos, .ref m_aside_a, .ref m_kept_a, .int m_keptUndos, .int m_isKept, .ref m_lanes_a, .ref m_sizes_a, .ref m_items_a, .ref m_moved_a])), (m_now_a, .inl (cI, 65, .inl m_now))] → va_S A H0 H1 locs1 → W p l e R s m args below meth c H1 locs1 cells slots Q (F0 m pc1 ls1 [.int r0])) : W p l e R s m args below meth c H locs cells slots Q (F0 m 0 ls []) := by
  unfold fnX5_known at hM
  refine lv_iload_n hx hb dX5_known_0 rfl (lv_at hl 1 rfl) ?_
  obtain ⟨r1, hc2, hM⟩ := sx_c1_s hM
  refine sx_iS (As := [.int a1]) (rest := []) (wc := []) (wr := [(m_h, .inr (5, [.ref m_now_a, .ref m_tape_a, .int m_typed, .int m_place, .int m_isFault, .ref m_read_a, .ref m_heard_a, .ref m_undone_a, .int m_undos, .ref m_aside_a, .ref m_kept_a, .int m_keptUndos, .int m_isKept, .ref m_lanes_a, .ref m_sizes_a, .ref m_items_a, .ref m_moved_a])), (m_now_a, .inl (cI, 65, .inl m_now))]) (w1 := []) ⟨hx, hb, hml, hown, hts⟩ (mtX5_isThing l D cI cJ cS H.size a1 F r1 hc2) (va_cwS 1 hts gX5_known_X5_isThing rfl rfl rfl (by decide +kernel) ⟨Nat.le_trans (by decide) hRf, Nat.le_trans (by decide) hRl⟩) hK hN hP hD hS hA [] [0, 1] rfl (by decide) rfl (by decide) (by decide) rfl hl.1 rfl (Nat.le_of_ble_eq_true rfl) dX5_known_1 hRc (fun H locs hP hD hS => ?_)
  have hP : va_P D vwCl [(m_h, .inr (5, [.ref m_now_a, .ref m_tape_a, .int m_typed, .int m_place, .int m_isFault, .ref m_read_a, .ref m_heard_a, .ref m_undone_a, .int m_undos, .ref m_aside_a, .ref m_kept_a, .int m_keptUndos, .int m_isKept, .ref m_lanes_a, .ref m_sizes_a, .ref m_items_a, .ref m_moved_a])), (m_now_a, .inl (cI, 65, .inl m_now))] H := hP
  have hD : va_D A [(m_h, .inr (5, [.ref m_now_a, .ref m_tape_a, .int m_typed, .int m_place, .int m_isFault, .ref m_read_a, .ref m_heard_a, .ref m_undone_a, .int m_undos, .ref m_aside_a, .ref m_kept_a, .int m_keptUndos, .int m_isKept, .ref m_lanes_a, .ref m_sizes_a, .ref m_items_a, .ref m_moved_a])), (m_now_a, .inl (cI, 65, .inl m_now))] := hD
  refine lv_if_eq (tgt := 15) hx hb dX5_known_4 (by decide) (fun c3 => ?_) (fun c3 => ?_)
  · replace hM := sx_ift c3 hM
    refine lv_iconst (v := -1) hx hb dX5_known_15 (by decide) ?_
    obtain rfl := sx_o1 hM
    exact hret _ _ _ _ dX5_known_16 (hP.sub [0, 1] rfl) (hD.sub [0, 1] (by decide) rfl) hS
  · replace hM := sx_iff c3 hM
    refine lv_aload_n hx hb dX5_known_7 rfl (lv_at hl 0 rfl) ?_
    refine lv_iload_n hx hb dX5_known_8 rfl (lv_at hl 1 rfl) ?_
    obtain ⟨r4, hc5, hM⟩ := sx_c1_s hM
    refine sx_iV (As := [.int a1]) (rest := []) (wc := [(m_h, .inr (5, [.ref m_now_a, .ref m_tape_a, .int m_typed, .int m_place, .int m_isFault, .ref m_read_a, .ref m_heard_a, .ref m_undone_a, .int m_undos, .ref m_aside_a, .ref m_kept_a, .int m_keptUndos, .int m_isKept, .ref m_lanes_a, .ref m_sizes_a, .ref m_items_a, .ref m_moved_a])), (m_now_a, .inl (cI, 65, .inl m_now))]) (wr := []) (w1 := [(m_h, .inr (5, [.ref m_now_a, .ref m_tape_a, .int m_typed, .int m_place, .int m_isFault, .ref m_read_a, .ref m_heard_a, .ref m_undone_a, .int m_undos, .ref m_aside_a, .ref m_kept_a, .int m_keptUndos, .int m_isKept, .ref m_lanes_a, .ref m_sizes_a, .ref m_items_a, .ref m_moved_a])), (m_now_a, .inl (cI, 65, .inl m_now))]) ⟨hx, hb, hml, hown, hts⟩ (mtX5_who l D cI cJ cS H.size m_h m_now_a m_tape_a m_read_a m_heard_a m_undone_a m_aside_a m_kept_a m_lanes_a m_sizes_a m_items_a m_moved_a m_now m_typed m_place m_isFault m_undos m_keptUndos m_isKept a1 F r4 hc5) (cwV 1 hts gX5_known_X5_who rfl rfl rfl (by decide +kernel) ⟨Nat.le_trans (by decide) hRf, Nat.le_trans (by decide) hRl⟩) hK hN hP hD hS hA [0, 1] [] rfl (by decide) rfl (by decide) (by decide) rfl rfl rfl rfl hl.1 rfl (Nat.le_of_ble_eq_true rfl) dX5_known_9 hRc (fun H locs hP hD hS => ?_)
    have hP : va_P D vwCl [(m_h, .inr (5, [.ref m_now_a, .ref m_tape_a, .int m_typed, .int m_place, .int m_isFault, .ref m_read_a, .ref m_heard_a, .ref m_undone_a, .int m_undos, .ref m_aside_a, .ref m_kept_a, .int m_keptUndos, .int m_isKept, .ref m_lanes_a, .ref m_sizes_a, .ref m_items_a, .ref m_moved_a])), (m_now_a, .inl (cI, 65, .inl m_now))] H := hP
    have hD : va_D A [(m_h, .inr (5, [.ref m_now_a, .ref m_tape_a, .int m_typed, .int m_place, .int m_isFault, .ref m_read_a, .ref m_heard_a, .ref m_undone_a, .int m_undos, .ref m_aside_a, .ref m_kept_a, .int m_keptUndos, .int m_isKept, .ref m_lanes_a, .ref m_sizes_a, .ref m_items_a, .ref m_moved_a])), (m_now_a, .inl (cI, 65, .inl m_now))] := hD
    refine lv_goto (tgt := 16) hx hb dX5_known_12 (by decide) ?_
    obtain rfl := sx_o1 hM
    exact hret _ _ _ _ dX5_known_16 (hP.sub [0, 1] rfl) (hD.sub [0, 1] (by decide) rfl) hS
set_option maxHeartbeats 4000000 in
set_option maxRecDepth 100000 in
theorem mtX5_known (l : Launch) (D : va_G) (cI cJ cS : ClassId) (sz : Nat) (m_h m_now_a m_tape_a m_read_a m_heard_a m_undone_a m_aside_a m_kept_a m_lanes_a m_sizes_a m_items_a m_moved_a : Nat) (m_now : Nat → Int32) (m_typed : Int32) (m_place : Int32) (m_isFault : Int32) (m_undos : Int32) (m_keptUndos : Int32) (m_isKept : Int32) (a1 : Int32) (F : Nat) (r0 : Int32) (hM : fnX5_known F m_now a1 = some r0) : sx_MI l yX5_known wsX5_known ({ frames := 3, cells := 0, slots := 0, locals := 67 }) D (sx_T cI cJ cS) sz [.ref m_h, .int a1] [(m_h, .inr (5, [.ref m_now_a, .ref m_tape_a, .int m_typed, .int m_place, .int m_isFault, .ref m_read_a, .ref m_heard_a, .ref m_undone_a, .int m_undos, .ref m_aside_a, .ref m_kept_a, .int m_keptUndos, .int m_isKept, .ref m_lanes_a, .ref m_sizes_a, .ref m_items_a, .ref m_moved_a])), (m_now_a, .inl (cI, 65, .inl m_now))] r0 [(m_h, .inr (5, [.ref m_now_a, .ref m_tape_a, .int m_typed, .int m_place, .int m_isFault, .ref m_read_a, .ref m_heard_a, .ref m_undone_a, .int m_undos, .ref m_aside_a, .ref m_kept_a, .int m_keptUndos, .int m_isKept, .ref m_lanes_a, .ref m_sizes_a, .ref m_items_a, .ref m_moved_a])), (m_now_a, .inl (cI, 65, .inl m_now))] := by
  refine Met.ofW (cc := cX5_known) (maxL := 2) (ret := (some .int)) (by decide) rfl ?_
  intro p e s m args below meth c s₁ B hml hv
  obtain ⟨rfl, hsz, hN, hP, hK, hD0⟩ := hv
  subst hsz
  have hl := lv_entry ([.ref m_h, .int a1]) (n := 2) (Nat.le_of_ble_eq_true rfl)
  rw [lg_entry_eq]
  generalize (lg_sl ([.ref m_h, .int a1]) ++ List.replicate (2 - (lg_sl ([.ref m_h, .int a1])).length) Slot.unset).toArray = ls at hl ⊢
  exact kwX5_known B.exec B.bytes hml (findClass_of_methodNamed B.named) (atoms_spec (ws := wsX5_known) B.pre) hN hK (fun q h => Or.inr h) (by decide) (by decide) ⟨Nat.zero_le _, Nat.zero_le _⟩ m_h m_now_a m_tape_a m_read_a m_heard_a m_undone_a m_aside_a m_kept_a m_lanes_a m_sizes_a m_items_a m_moved_a m_now m_typed m_place m_isFault m_undos m_keptUndos m_isKept a1 F r0 hM _ _ _ hl hP hD0.self va_S.rf (fun H1 locs1 ls1 pc1 hd hP hD hS => W.iret (v := r0) B.exec B.bytes B.returns (fun t ht hW => ⟨⟨r0, (), rfl, rfl, by rw [ht]; exact hP, hD⟩, hS.F ht⟩) hS.2.2 hd)

def fnX5_seats (F : Nat) (m_now : Nat → Int32) (a1 : Int32) (a2 : Int32) : Option (Int32 × (Nat → Int32)) :=
  sx_c1 (fnX5_isPerson F m_now a1) (fun (r1 : Int32) => (if r1 = 0 then (some ((-1 : Int32), m_now)) else sx_c1 (fnX5_isPerson F m_now a2) (fun (r4 : Int32) => (if r4 = 0 then (some ((-1 : Int32), m_now)) else (if a1 = a2 then (some ((-1 : Int32), m_now)) else sx_c1 (fnX5_placeOf F m_now a1) (fun (r8 : Int32) => sx_c1 (fnX5_placeOf F m_now a2) (fun (r10 : Int32) => sx_gd (sx_ib ((11 : Int32) + r8) 65) (sx_gd (sx_ib ((11 : Int32) + r10) 65) (sx_c1 (fnX5_beside F (upd (upd m_now (((11 : Int32) + r8)).toNatClampNeg a2) (((11 : Int32) + r10)).toNatClampNeg a1) a1 (1 : Int32)) (fun (r14 : Int32) => (some (r14, (upd (upd m_now (((11 : Int32) + r8)).toNatClampNeg a2) (((11 : Int32) + r10)).toNatClampNeg a1)))))))))))))
set_option maxHeartbeats 4000000 in
set_option maxRecDepth 100000 in
theorem kwX5_seats {p : Program} {l : Launch} {e : Env} {R : Room} {s : State} {m : MethodId} {args : Array Value} {below : List Frame} {meth : Method} {c : Code} {cells slots : Nat} {Q : State → Prop} {A : Nat → Prop} {H0 : Heap} {D : va_G} {cI cJ cS : ClassId} (hx : p.tables.exec = Jvm.exec) (hb : c.code = cX5_seats) (hml : c.maxLocals = 5) (hown : s.vm.findClass RX5 = some m.cls) (hts : ∀ w ∈ wsX5_seats, w.before args s = true) (hN : sx_N s) (hK : va_K D vwCl (sx_T cI cJ cS) s) (hA : ∀ q, H0.size ≤ q → A q) (hRf : 2 ≤ R.frames) (hRl : 46 ≤ R.locals) (hRc : cells ≤ R.cells ∧ slots ≤ R.slots) (m_h m_now_a m_tape_a m_read_a m_heard_a m_undone_a m_aside_a m_kept_a m_lanes_a m_sizes_a m_items_a m_moved_a : Nat) (m_now : Nat → Int32) (m_typed : Int32) (m_place : Int32) (m_isFault : Int32) (m_undos : Int32) (m_keptUndos : Int32) (m_isKept : Int32) (a1 : Int32) (a2 : Int32) (F : Nat) (r0 : Int32) (w_m_now : Nat → Int32) (hM : fnX5_seats F m_now a1 a2 = some (r0, w_m_now)) (H : Heap) (locs : List Loc) (ls : Array Slot) (hl : lv_has ls 5 [(0, .ref m_h), (1, .int a1), (2, .int a2)]) (hP : va_P D vwCl [(m_h, .inr (5, [.ref m_now_a, .ref m_tape_a, .int m_typed, .int m_place, .int m_isFault, .ref m_read_a, .ref m_heard_a, .ref m_undone_a, .int m_undos, .ref m_aside_a, .ref m_kept_a, .int m_keptUndos, .int m_isKept, .ref m_lanes_a, .ref m_sizes_a, .ref m_items_a, .ref m_moved_a])), (m_now_a, .inl (cI, 65, .inl m_now))] H) (hD : va_D A [(m_h, .inr (5, [.ref m_now_a, .ref m_tape_a, .int m_typed, .int m_place, .int m_isFault, .ref m_read_a, .ref m_heard_a, .ref m_undone_a, .int m_undos, .ref m_aside_a, .ref m_kept_a, .int m_keptUndos, .int m_isKept, .ref m_lanes_a, .ref m_sizes_a, .ref m_items_a, .ref m_moved_a])), (m_now_a, .inl (cI, 65, .inl m_now))]) (hS : va_S A H0 H locs)
    (hret : ∀ (H1 : Heap) (locs1 : List Loc) (ls1 : Array Slot) (pc1 : Nat), decode cX5_seats pc1 = .ok (.ireturn, 1) → va_P D vwCl [(m_h, .inr (5, [.ref m_now_a, .ref m_tape_a, .int m_typed, .int m_place, .int m_isFault, .ref m_read_a, .ref m_heard_a, .ref m_undone_a, .int m_undos, .ref m_aside_a, .ref m_kept_a, .int m_keptUndos, .int m_isKept, .ref m_lanes_a, .ref m_sizes_a, .ref m_items_a, .ref m_moved_a])), (m_now_a, .inl (cI, 65, .inl w_m_now))] H1 → va_D A [(m_h, .inr (5, [.ref m_now_a, .ref m_tape_a, .int m_typed, .int m_place, .int m_isFault, .ref m_read_a, .ref m_heard_a, .ref m_undone_a, .int m_undos, .ref m_aside_a, .ref m_kept_a, .int m_keptUndos, .int m_isKept, .ref m_lanes_a, .ref m_sizes_a, .ref m_items_a, .ref m_moved_a])), (m_now_a, .inl (cI, 65, .inl w_m_now))] → va_S A H0 H1 locs1 → W p l e R s m args below meth c H1 locs1 cells slots Q (F0 m pc1 ls1 [.int r0])) : W p l e R s m args below meth c H locs cells slots Q (F0 m 0 ls []) := by
  have hf_7 := hts (.fieldLink RX5 7 "SealedLipsModel" "now" "[I") (by decide +kernel)
  have hin_X5 : ∀ w ∈ wsX50, w ∈ wsX5_seats := by decide +kernel
  unfold fnX5_seats at hM
  refine lv_aload_n hx hb dX5_seats_0 rfl (lv_at hl 0 rfl) ?_
  refine lv_iload_n hx hb dX5_seats_1 rfl (lv_at hl 1 rfl) ?_
  obtain ⟨r1, hc2, hM⟩ := sx_c1_s hM
  refine sx_iV (As := [.int a1]) (rest := []) (wc := [(m_h, .inr (5, [.ref m_now_a, .ref m_tape_a, .int m_typed, .int m_place, .int m_isFault, .ref m_read_a, .ref m_heard_a, .ref m_undone_a, .int m_undos, .ref m_aside_a, .ref m_kept_a, .int m_keptUndos, .int m_isKept, .ref m_lanes_a, .ref m_sizes_a, .ref m_items_a, .ref m_moved_a])), (m_now_a, .inl (cI, 65, .inl m_now))]) (wr := []) (w1 := [(m_h, .inr (5, [.ref m_now_a, .ref m_tape_a, .int m_typed, .int m_place, .int m_isFault, .ref m_read_a, .ref m_heard_a, .ref m_undone_a, .int m_undos, .ref m_aside_a, .ref m_kept_a, .int m_keptUndos, .int m_isKept, .ref m_lanes_a, .ref m_sizes_a, .ref m_items_a, .ref m_moved_a])), (m_now_a, .inl (cI, 65, .inl m_now))]) ⟨hx, hb, hml, hown, hts⟩ (mtX5_isPerson l D cI cJ cS H.size m_h m_now_a m_tape_a m_read_a m_heard_a m_undone_a m_aside_a m_kept_a m_lanes_a m_sizes_a m_items_a m_moved_a m_now m_typed m_place m_isFault m_undos m_keptUndos m_isKept a1 F r1 hc2) (cwV 1 hts gX5_seats_X5_isPerson rfl rfl rfl (by decide +kernel) ⟨Nat.le_trans (by decide) hRf, Nat.le_trans (by decide) hRl⟩) hK hN hP hD hS hA [0, 1] [] rfl (by decide) rfl (by decide) (by decide) rfl rfl rfl rfl hl.1 rfl (Nat.le_of_ble_eq_true rfl) dX5_seats_2 hRc (fun H locs hP hD hS => ?_)
  have hP : va_P D vwCl [(m_h, .inr (5, [.ref m_now_a, .ref m_tape_a, .int m_typed, .int m_place, .int m_isFault, .ref m_read_a, .ref m_heard_a, .ref m_undone_a, .int m_undos, .ref m_aside_a, .ref m_kept_a, .int m_keptUndos, .int m_isKept, .ref m_lanes_a, .ref m_sizes_a, .ref m_items_a, .ref m_moved_a])), (m_now_a, .inl (cI, 65, .inl m_now))] H := hP
  have hD : va_D A [(m_h, .inr (5, [.ref m_now_a, .ref m_tape_a, .int m_typed, .int m_place, .int m_isFault, .ref m_read_a, .ref m_heard_a, .ref m_undone_a, .int m_undos, .ref m_aside_a, .ref m_kept_a, .int m_keptUndos, .int m_isKept, .ref m_lanes_a, .ref m_sizes_a, .ref m_items_a, .ref m_moved_a])), (m_now_a, .inl (cI, 65, .inl m_now))] := hD
  refine lv_if_eq (tgt := 21) hx hb dX5_seats_5 (by decide) (fun c3 => ?_) (fun c3 => ?_)
  · replace hM := sx_ift c3 hM
    refine lv_iconst (v := -1) hx hb dX5_seats_21 (by decide) ?_
    obtain ⟨rfl, rfl⟩ := sx_o2 hM
    exact hret _ _ _ _ dX5_seats_22 (hP.sub [0, 1] rfl) (hD.sub [0, 1] (by decide) rfl) hS
  · replace hM := sx_iff c3 hM
    refine lv_aload_n hx hb dX5_seats_8 rfl (lv_at hl 0 rfl) ?_
    refine lv_iload_n hx hb dX5_seats_9 rfl (lv_at hl 2 rfl) ?_
    obtain ⟨r4, hc5, hM⟩ := sx_c1_s hM
    refine sx_iV (As := [.int a2]) (rest := []) (wc := [(m_h, .inr (5, [.ref m_now_a, .ref m_tape_a, .int m_typed, .int m_place, .int m_isFault, .ref m_read_a, .ref m_heard_a, .ref m_undone_a, .int m_undos, .ref m_aside_a, .ref m_kept_a, .int m_keptUndos, .int m_isKept, .ref m_lanes_a, .ref m_sizes_a, .ref m_items_a, .ref m_moved_a])), (m_now_a, .inl (cI, 65, .inl m_now))]) (wr := []) (w1 := [(m_h, .inr (5, [.ref m_now_a, .ref m_tape_a, .int m_typed, .int m_place, .int m_isFault, .ref m_read_a, .ref m_heard_a, .ref m_undone_a, .int m_undos, .ref m_aside_a, .ref m_kept_a, .int m_keptUndos, .int m_isKept, .ref m_lanes_a, .ref m_sizes_a, .ref m_items_a, .ref m_moved_a])), (m_now_a, .inl (cI, 65, .inl m_now))]) ⟨hx, hb, hml, hown, hts⟩ (mtX5_isPerson l D cI cJ cS H.size m_h m_now_a m_tape_a m_read_a m_heard_a m_undone_a m_aside_a m_kept_a m_lanes_a m_sizes_a m_items_a m_moved_a m_now m_typed m_place m_isFault m_undos m_keptUndos m_isKept a2 F r4 hc5) (cwV 1 hts gX5_seats_X5_isPerson rfl rfl rfl (by decide +kernel) ⟨Nat.le_trans (by decide) hRf, Nat.le_trans (by decide) hRl⟩) hK hN hP hD hS hA [0, 1] [] rfl (by decide) rfl (by decide) (by decide) rfl rfl rfl rfl hl.1 rfl (Nat.le_of_ble_eq_true rfl) dX5_seats_10 hRc (fun H locs hP hD hS => ?_)
    have hP : va_P D vwCl [(m_h, .inr (5, [.ref m_now_a, .ref m_tape_a, .int m_typed, .int m_place, .int m_isFault, .ref m_read_a, .ref m_heard_a, .ref m_undone_a, .int m_undos, .ref m_aside_a, .ref m_kept_a, .int m_keptUndos, .int m_isKept, .ref m_lanes_a, .ref m_sizes_a, .ref m_items_a, .ref m_moved_a])), (m_now_a, .inl (cI, 65, .inl m_now))] H := hP
    have hD : va_D A [(m_h, .inr (5, [.ref m_now_a, .ref m_tape_a, .int m_typed, .int m_place, .int m_isFault, .ref m_read_a, .ref m_heard_a, .ref m_undone_a, .int m_undos, .ref m_aside_a, .ref m_kept_a, .int m_keptUndos, .int m_isKept, .ref m_lanes_a, .ref m_sizes_a, .ref m_items_a, .ref m_moved_a])), (m_now_a, .inl (cI, 65, .inl m_now))] := hD
    refine lv_if_eq (tgt := 21) hx hb dX5_seats_13 (by decide) (fun c6 => ?_) (fun c6 => ?_)
    · replace hM := sx_ift c6 hM
      refine lv_iconst (v := -1) hx hb dX5_seats_21 (by decide) ?_
      obtain ⟨rfl, rfl⟩ := sx_o2 hM
      exact hret _ _ _ _ dX5_seats_22 (hP.sub [0, 1] rfl) (hD.sub [0, 1] (by decide) rfl) hS
    · replace hM := sx_iff c6 hM
      refine lv_iload_n hx hb dX5_seats_16 rfl (lv_at hl 1 rfl) ?_
      refine lv_iload_n hx hb dX5_seats_17 rfl (lv_at hl 2 rfl) ?_
      refine lv_icmp_ne (tgt := 23) hx hb dX5_seats_18 (by decide) (fun c7 => ?_) (fun c7 => ?_)
      · replace hM := sx_iff c7 hM
        refine lv_aload_n hx hb dX5_seats_23 rfl (lv_at hl 0 rfl) ?_
        refine lv_iload_n hx hb dX5_seats_24 rfl (lv_at hl 1 rfl) ?_
        obtain ⟨r8, hc9, hM⟩ := sx_c1_s hM
        refine sx_iV (As := [.int a1]) (rest := []) (wc := [(m_h, .inr (5, [.ref m_now_a, .ref m_tape_a, .int m_typed, .int m_place, .int m_isFault, .ref m_read_a, .ref m_heard_a, .ref m_undone_a, .int m_undos, .ref m_aside_a, .ref m_kept_a, .int m_keptUndos, .int m_isKept, .ref m_lanes_a, .ref m_sizes_a, .ref m_items_a, .ref m_moved_a])), (m_now_a, .inl (cI, 65, .inl m_now))]) (wr := []) (w1 := [(m_h, .inr (5, [.ref m_now_a, .ref m_tape_a, .int m_typed, .int m_place, .int m_isFault, .ref m_read_a, .ref m_heard_a, .ref m_undone_a, .int m_undos, .ref m_aside_a, .ref m_kept_a, .int m_keptUndos, .int m_isKept, .ref m_lanes_a, .ref m_sizes_a, .ref m_items_a, .ref m_moved_a])), (m_now_a, .inl (cI, 65, .inl m_now))]) ⟨hx, hb, hml, hown, hts⟩ (mtX5_placeOf l D cI cJ cS H.size m_h m_now_a m_tape_a m_read_a m_heard_a m_undone_a m_aside_a m_kept_a m_lanes_a m_sizes_a m_items_a m_moved_a m_now m_typed m_place m_isFault m_undos m_keptUndos m_isKept a1 F r8 hc9) (cwV 1 hts gX5_seats_X5_placeOf rfl rfl rfl (by decide +kernel) ⟨Nat.le_trans (by decide) hRf, Nat.le_trans (by decide) hRl⟩) hK hN hP hD hS hA [0, 1] [] rfl (by decide) rfl (by decide) (by decide) rfl rfl rfl rfl hl.1 rfl (Nat.le_of_ble_eq_true rfl) dX5_seats_25 hRc (fun H locs hP hD hS => ?_)
        have hP : va_P D vwCl [(m_h, .inr (5, [.ref m_now_a, .ref m_tape_a, .int m_typed, .int m_place, .int m_isFault, .ref m_read_a, .ref m_heard_a, .ref m_undone_a, .int m_undos, .ref m_aside_a, .ref m_kept_a, .int m_keptUndos, .int m_isKept, .ref m_lanes_a, .ref m_sizes_a, .ref m_items_a, .ref m_moved_a])), (m_now_a, .inl (cI, 65, .inl m_now))] H := hP
        have hD : va_D A [(m_h, .inr (5, [.ref m_now_a, .ref m_tape_a, .int m_typed, .int m_place, .int m_isFault, .ref m_read_a, .ref m_heard_a, .ref m_undone_a, .int m_undos, .ref m_aside_a, .ref m_kept_a, .int m_keptUndos, .int m_isKept, .ref m_lanes_a, .ref m_sizes_a, .ref m_items_a, .ref m_moved_a])), (m_now_a, .inl (cI, 65, .inl m_now))] := hD
        refine lv_istore_n (lv' := [(3, .int r8), (0, .ref m_h), (1, .int a1), (2, .int a2)]) hx hb dX5_seats_28 rfl hl (by decide) rfl (fun ls hl => ?_)
        refine lv_aload_n hx hb dX5_seats_29 rfl (lv_at hl 1 rfl) ?_
        refine lv_iload_n hx hb dX5_seats_30 rfl (lv_at hl 3 rfl) ?_
        obtain ⟨r10, hc11, hM⟩ := sx_c1_s hM
        refine sx_iV (As := [.int a2]) (rest := []) (wc := [(m_h, .inr (5, [.ref m_now_a, .ref m_tape_a, .int m_typed, .int m_place, .int m_isFault, .ref m_read_a, .ref m_heard_a, .ref m_undone_a, .int m_undos, .ref m_aside_a, .ref m_kept_a, .int m_keptUndos, .int m_isKept, .ref m_lanes_a, .ref m_sizes_a, .ref m_items_a, .ref m_moved_a])), (m_now_a, .inl (cI, 65, .inl m_now))]) (wr := []) (w1 := [(m_h, .inr (5, [.ref m_now_a, .ref m_tape_a, .int m_typed, .int m_place, .int m_isFault, .ref m_read_a, .ref m_heard_a, .ref m_undone_a, .int m_undos, .ref m_aside_a, .ref m_kept_a, .int m_keptUndos, .int m_isKept, .ref m_lanes_a, .ref m_sizes_a, .ref m_items_a, .ref m_moved_a])), (m_now_a, .inl (cI, 65, .inl m_now))]) ⟨hx, hb, hml, hown, hts⟩ (mtX5_placeOf l D cI cJ cS H.size m_h m_now_a m_tape_a m_read_a m_heard_a m_undone_a m_aside_a m_kept_a m_lanes_a m_sizes_a m_items_a m_moved_a m_now m_typed m_place m_isFault m_undos m_keptUndos m_isKept a2 F r10 hc11) (cwV 1 hts gX5_seats_X5_placeOf rfl rfl rfl (by decide +kernel) ⟨Nat.le_trans (by decide) hRf, Nat.le_trans (by decide) hRl⟩) hK hN hP hD hS hA [0, 1] [] rfl (by decide) rfl (by decide) (by decide) rfl rfl rfl rfl hl.1 rfl (Nat.le_of_ble_eq_true rfl) dX5_seats_31 hRc (fun H locs hP hD hS => ?_)
        have hP : va_P D vwCl [(m_h, .inr (5, [.ref m_now_a, .ref m_tape_a, .int m_typed, .int m_place, .int m_isFault, .ref m_read_a, .ref m_heard_a, .ref m_undone_a, .int m_undos, .ref m_aside_a, .ref m_kept_a, .int m_keptUndos, .int m_isKept, .ref m_lanes_a, .ref m_sizes_a, .ref m_items_a, .ref m_moved_a])), (m_now_a, .inl (cI, 65, .inl m_now))] H := hP
        have hD : va_D A [(m_h, .inr (5, [.ref m_now_a, .ref m_tape_a, .int m_typed, .int m_place, .int m_isFault, .ref m_read_a, .ref m_heard_a, .ref m_undone_a, .int m_undos, .ref m_aside_a, .ref m_kept_a, .int m_keptUndos, .int m_isKept, .ref m_lanes_a, .ref m_sizes_a, .ref m_items_a, .ref m_moved_a])), (m_now_a, .inl (cI, 65, .inl m_now))] := hD
        refine lv_istore (lv' := [(4, .int r10), (3, .int r8), (0, .ref m_h), (1, .int a1), (2, .int a2)]) hx hb dX5_seats_34 hl (by decide) rfl (fun ls hl => ?_)
        refine lv_aload_n hx hb dX5_seats_36 rfl (lv_at hl 2 rfl) ?_
        refine va_get (D := D) (ci := 5) (v := .ref m_now_a) (C := RX5) (T := TX5) (N := 17) hx hb hts hin_X5 hown hK hP 0 rfl rfl 0 (by decide) hf_7 (fun _ h9 => h9) rfl dX5_seats_37 ?_
        refine lv_bipush (v := 11) hx hb dX5_seats_40 (by decide) ?_
        refine lv_iload_n hx hb dX5_seats_42 rfl (lv_at hl 1 rfl) ?_
        refine lv_iadd hx hb dX5_seats_43 ?_
        refine lv_iload_n hx hb dX5_seats_44 rfl (lv_at hl 4 rfl) ?_
        obtain ⟨g12, hM⟩ := sx_gd_s hM
        refine va_iast hx hb hK hP hD hS 1 0 rfl rfl (sx_ib_s g12) dX5_seats_45 (fun H locs hP hD hS => ?_)
        have hP : va_P D vwCl [(m_h, .inr (5, [.ref m_now_a, .ref m_tape_a, .int m_typed, .int m_place, .int m_isFault, .ref m_read_a, .ref m_heard_a, .ref m_undone_a, .int m_undos, .ref m_aside_a, .ref m_kept_a, .int m_keptUndos, .int m_isKept, .ref m_lanes_a, .ref m_sizes_a, .ref m_items_a, .ref m_moved_a])), (m_now_a, .inl (cI, 65, .inl (upd m_now (((11 : Int32) + r8)).toNatClampNeg a2)))] H := hP
        have hD : va_D A [(m_h, .inr (5, [.ref m_now_a, .ref m_tape_a, .int m_typed, .int m_place, .int m_isFault, .ref m_read_a, .ref m_heard_a, .ref m_undone_a, .int m_undos, .ref m_aside_a, .ref m_kept_a, .int m_keptUndos, .int m_isKept, .ref m_lanes_a, .ref m_sizes_a, .ref m_items_a, .ref m_moved_a])), (m_now_a, .inl (cI, 65, .inl (upd m_now (((11 : Int32) + r8)).toNatClampNeg a2)))] := hD
        refine lv_aload_n hx hb dX5_seats_46 rfl (lv_at hl 2 rfl) ?_
        refine va_get (D := D) (ci := 5) (v := .ref m_now_a) (C := RX5) (T := TX5) (N := 17) hx hb hts hin_X5 hown hK hP 0 rfl rfl 0 (by decide) hf_7 (fun _ h9 => h9) rfl dX5_seats_47 ?_
        refine lv_bipush (v := 11) hx hb dX5_seats_50 (by decide) ?_
        refine lv_iload hx hb dX5_seats_52 (lv_at hl 0 rfl) ?_
        refine lv_iadd hx hb dX5_seats_54 ?_
        refine lv_iload_n hx hb dX5_seats_55 rfl (lv_at hl 3 rfl) ?_
        obtain ⟨g13, hM⟩ := sx_gd_s hM
        refine va_iast hx hb hK hP hD hS 1 0 rfl rfl (sx_ib_s g13) dX5_seats_56 (fun H locs hP hD hS => ?_)
        have hP : va_P D vwCl [(m_h, .inr (5, [.ref m_now_a, .ref m_tape_a, .int m_typed, .int m_place, .int m_isFault, .ref m_read_a, .ref m_heard_a, .ref m_undone_a, .int m_undos, .ref m_aside_a, .ref m_kept_a, .int m_keptUndos, .int m_isKept, .ref m_lanes_a, .ref m_sizes_a, .ref m_items_a, .ref m_moved_a])), (m_now_a, .inl (cI, 65, .inl (upd (upd m_now (((11 : Int32) + r8)).toNatClampNeg a2) (((11 : Int32) + r10)).toNatClampNeg a1)))] H := hP
        have hD : va_D A [(m_h, .inr (5, [.ref m_now_a, .ref m_tape_a, .int m_typed, .int m_place, .int m_isFault, .ref m_read_a, .ref m_heard_a, .ref m_undone_a, .int m_undos, .ref m_aside_a, .ref m_kept_a, .int m_keptUndos, .int m_isKept, .ref m_lanes_a, .ref m_sizes_a, .ref m_items_a, .ref m_moved_a])), (m_now_a, .inl (cI, 65, .inl (upd (upd m_now (((11 : Int32) + r8)).toNatClampNeg a2) (((11 : Int32) + r10)).toNatClampNeg a1)))] := hD
        refine lv_aload_n hx hb dX5_seats_57 rfl (lv_at hl 2 rfl) ?_
        refine lv_iload_n hx hb dX5_seats_58 rfl (lv_at hl 3 rfl) ?_
        refine lv_iconst (v := 1) hx hb dX5_seats_59 (by decide) ?_
        obtain ⟨r14, hc15, hM⟩ := sx_c1_s hM
        refine sx_iV (As := [.int a1, .int (1 : Int32)]) (rest := []) (wc := [(m_h, .inr (5, [.ref m_now_a, .ref m_tape_a, .int m_typed, .int m_place, .int m_isFault, .ref m_read_a, .ref m_heard_a, .ref m_undone_a, .int m_undos, .ref m_aside_a, .ref m_kept_a, .int m_keptUndos, .int m_isKept, .ref m_lanes_a, .ref m_sizes_a, .ref m_items_a, .ref m_moved_a])), (m_now_a, .inl (cI, 65, .inl (upd (upd m_now (((11 : Int32) + r8)).toNatClampNeg a2) (((11 : Int32) + r10)).toNatClampNeg a1)))]) (wr := []) (w1 := [(m_h, .inr (5, [.ref m_now_a, .ref m_tape_a, .int m_typed, .int m_place, .int m_isFault, .ref m_read_a, .ref m_heard_a, .ref m_undone_a, .int m_undos, .ref m_aside_a, .ref m_kept_a, .int m_keptUndos, .int m_isKept, .ref m_lanes_a, .ref m_sizes_a, .ref m_items_a, .ref m_moved_a])), (m_now_a, .inl (cI, 65, .inl (upd (upd m_now (((11 : Int32) + r8)).toNatClampNeg a2) (((11 : Int32) + r10)).toNatClampNeg a1)))]) ⟨hx, hb, hml, hown, hts⟩ (mtX5_beside l D cI cJ cS H.size m_h m_now_a m_tape_a m_read_a m_heard_a m_undone_a m_aside_a m_kept_a m_lanes_a m_sizes_a m_items_a m_moved_a (upd (upd m_now (((11 : Int32) + r8)).toNatClampNeg a2) (((11 : Int32) + r10)).toNatClampNeg a1) m_typed m_place m_isFault m_undos m_keptUndos m_isKept a1 (1 : Int32) F r14 hc15) (cwV 2 hts gX5_seats_X5_beside rfl rfl rfl (by decide +kernel) ⟨Nat.le_trans (by decide) hRf, Nat.le_trans (by decide) hRl⟩) hK hN hP hD hS hA [0, 1] [] rfl (by decide) rfl (by decide) (by decide) rfl rfl rfl rfl hl.1 rfl (Nat.le_of_ble_eq_true rfl) dX5_seats_60 hRc (fun H locs hP hD hS => ?_)
        have hP : va_P D vwCl [(m_h, .inr (5, [.ref m_now_a, .ref m_tape_a, .int m_typed, .int m_place, .int m_isFault, .ref m_read_a, .ref m_heard_a, .ref m_undone_a, .int m_undos, .ref m_aside_a, .ref m_kept_a, .int m_keptUndos, .int m_isKept, .ref m_lanes_a, .ref m_sizes_a, .ref m_items_a, .ref m_moved_a])), (m_now_a, .inl (cI, 65, .inl (upd (upd m_now (((11 : Int32) + r8)).toNatClampNeg a2) (((11 : Int32) + r10)).toNatClampNeg a1)))] H := hP
        have hD : va_D A [(m_h, .inr (5, [.ref m_now_a, .ref m_tape_a, .int m_typed, .int m_place, .int m_isFault, .ref m_read_a, .ref m_heard_a, .ref m_undone_a, .int m_undos, .ref m_aside_a, .ref m_kept_a, .int m_keptUndos, .int m_isKept, .ref m_lanes_a, .ref m_sizes_a, .ref m_items_a, .ref m_moved_a])), (m_now_a, .inl (cI, 65, .inl (upd (upd m_now (((11 : Int32) + r8)).toNatClampNeg a2) (((11 : Int32) + r10)).toNatClampNeg a1)))] := hD
        obtain ⟨rfl, rfl⟩ := sx_o2 hM
        exact hret _ _ _ _ dX5_seats_63 (hP.sub [0, 1] rfl) (hD.sub [0, 1] (by decide) rfl) hS
      · replace hM := sx_ift c7 hM
        refine lv_iconst (v := -1) hx hb dX5_seats_21 (by decide) ?_
        obtain ⟨rfl, rfl⟩ := sx_o2 hM
        exact hret _ _ _ _ dX5_seats_22 (hP.sub [0, 1] rfl) (hD.sub [0, 1] (by decide) rfl) hS
set_option maxHeartbeats 4000000 in
set_option maxRecDepth 100000 in
theorem mtX5_seats (l : Launch) (D : va_G) (cI cJ cS : ClassId) (sz : Nat) (m_h m_now_a m_tape_a m_read_a m_heard_a m_undone_a m_aside_a m_kept_a m_lanes_a m_sizes_a m_items_a m_moved_a : Nat) (m_now : Nat → Int32) (m_typed : Int32) (m_place : Int32) (m_isFault : Int32) (m_undos : Int32) (m_keptUndos : Int32) (m_isKept : Int32) (a1 : Int32) (a2 : Int32) (F : Nat) (r0 : Int32) (w_m_now : Nat → Int32) (hM : fnX5_seats F m_now a1 a2 = some (r0, w_m_now)) : sx_MI l yX5_seats wsX5_seats ({ frames := 2, cells := 0, slots := 0, locals := 46 }) D (sx_T cI cJ cS) sz [.ref m_h, .int a1, .int a2] [(m_h, .inr (5, [.ref m_now_a, .ref m_tape_a, .int m_typed, .int m_place, .int m_isFault, .ref m_read_a, .ref m_heard_a, .ref m_undone_a, .int m_undos, .ref m_aside_a, .ref m_kept_a, .int m_keptUndos, .int m_isKept, .ref m_lanes_a, .ref m_sizes_a, .ref m_items_a, .ref m_moved_a])), (m_now_a, .inl (cI, 65, .inl m_now))] r0 [(m_h, .inr (5, [.ref m_now_a, .ref m_tape_a, .int m_typed, .int m_place, .int m_isFault, .ref m_read_a, .ref m_heard_a, .ref m_undone_a, .int m_undos, .ref m_aside_a, .ref m_kept_a, .int m_keptUndos, .int m_isKept, .ref m_lanes_a, .ref m_sizes_a, .ref m_items_a, .ref m_moved_a])), (m_now_a, .inl (cI, 65, .inl w_m_now))] := by
  refine Met.ofW (cc := cX5_seats) (maxL := 5) (ret := (some .int)) (by decide) rfl ?_
  intro p e s m args below meth c s₁ B hml hv
  obtain ⟨rfl, hsz, hN, hP, hK, hD0⟩ := hv
  subst hsz
  have hl := lv_entry ([.ref m_h, .int a1, .int a2]) (n := 5) (Nat.le_of_ble_eq_true rfl)
  rw [lg_entry_eq]
  generalize (lg_sl ([.ref m_h, .int a1, .int a2]) ++ List.replicate (5 - (lg_sl ([.ref m_h, .int a1, .int a2])).length) Slot.unset).toArray = ls at hl ⊢
  exact kwX5_seats B.exec B.bytes hml (findClass_of_methodNamed B.named) (atoms_spec (ws := wsX5_seats) B.pre) hN hK (fun q h => Or.inr h) (by decide) (by decide) ⟨Nat.zero_le _, Nat.zero_le _⟩ m_h m_now_a m_tape_a m_read_a m_heard_a m_undone_a m_aside_a m_kept_a m_lanes_a m_sizes_a m_items_a m_moved_a m_now m_typed m_place m_isFault m_undos m_keptUndos m_isKept a1 a2 F r0 w_m_now hM _ _ _ hl hP hD0.self va_S.rf (fun H1 locs1 ls1 pc1 hd hP hD hS => W.iret (v := r0) B.exec B.bytes B.returns (fun t ht hW => ⟨⟨r0, (), rfl, rfl, by rw [ht]; exact hP, hD⟩, hS.F ht⟩) hS.2.2 hd)

def fnX5_rule (F : Nat) (m_now : Nat → Int32) (a1 : Int32) (a2 : Int32) : Option (Int32 × (Nat → Int32)) :=
  sx_lt (sx_gd (sx_ib ((2 : Int32) + a1) 65) (sx_nm (m_now (((2 : Int32) + a1)).toNatClampNeg) (fun (v2 : Int32) => sx_gd (sx_ib ((2 : Int32) + a1) 65) ((some (v2, (upd m_now (((2 : Int32) + a1)).toNatClampNeg a2))))))) (fun (k_40 : Option (Int32 × (Nat → Int32))) => (if a1 = 0 then sx_c1 (fnX5_in F (a2).toInt64 (1 : Int64) (9 : Int64)) (fun (r9 : Int32) => (if r9 = 0 then (some ((-1 : Int32), m_now)) else k_40)) else (if a1 = (1 : Int32) then sx_c1 (fnX5_in F (a2).toInt64 (2 : Int64) (30 : Int64)) (fun (r6 : Int32) => (if r6 = 0 then (some ((-1 : Int32), m_now)) else k_40)) else (some ((-1 : Int32), m_now)))))
set_option maxHeartbeats 4000000 in
set_option maxRecDepth 100000 in
theorem kwX5_rule {p : Program} {l : Launch} {e : Env} {R : Room} {s : State} {m : MethodId} {args : Array Value} {below : List Frame} {meth : Method} {c : Code} {cells slots : Nat} {Q : State → Prop} {A : Nat → Prop} {H0 : Heap} {D : va_G} {cI cJ cS : ClassId} (hx : p.tables.exec = Jvm.exec) (hb : c.code = cX5_rule) (hml : c.maxLocals = 4) (hown : s.vm.findClass RX5 = some m.cls) (hts : ∀ w ∈ wsX5_rule, w.before args s = true) (hN : sx_N s) (hK : va_K D vwCl (sx_T cI cJ cS) s) (hA : ∀ q, H0.size ≤ q → A q) (hRf : 1 ≤ R.frames) (hRl : 25 ≤ R.locals) (hRc : cells ≤ R.cells ∧ slots ≤ R.slots) (m_h m_now_a m_tape_a m_read_a m_heard_a m_undone_a m_aside_a m_kept_a m_lanes_a m_sizes_a m_items_a m_moved_a : Nat) (m_now : Nat → Int32) (m_typed : Int32) (m_place : Int32) (m_isFault : Int32) (m_undos : Int32) (m_keptUndos : Int32) (m_isKept : Int32) (a1 : Int32) (a2 : Int32) (F : Nat) (r0 : Int32) (w_m_now : Nat → Int32) (hM : fnX5_rule F m_now a1 a2 = some (r0, w_m_now)) (H : Heap) (locs : List Loc) (ls : Array Slot) (hl : lv_has ls 4 [(0, .ref m_h), (1, .int a1), (2, .int a2)]) (hP : va_P D vwCl [(m_h, .inr (5, [.ref m_now_a, .ref m_tape_a, .int m_typed, .int m_place, .int m_isFault, .ref m_read_a, .ref m_heard_a, .ref m_undone_a, .int m_undos, .ref m_aside_a, .ref m_kept_a, .int m_keptUndos, .int m_isKept, .ref m_lanes_a, .ref m_sizes_a, .ref m_items_a, .ref m_moved_a])), (m_now_a, .inl (cI, 65, .inl m_now))] H) (hD : va_D A [(m_h, .inr (5, [.ref m_now_a, .ref m_tape_a, .int m_typed, .int m_place, .int m_isFault, .ref m_read_a, .ref m_heard_a, .ref m_undone_a, .int m_undos, .ref m_aside_a, .ref m_kept_a, .int m_keptUndos, .int m_isKept, .ref m_lanes_a, .ref m_sizes_a, .ref m_items_a, .ref m_moved_a])), (m_now_a, .inl (cI, 65, .inl m_now))]) (hS : va_S A H0 H locs)
    (hret : ∀ (H1 : Heap) (locs1 : List Loc) (ls1 : Array Slot) (pc1 : Nat), decode cX5_rule pc1 = .ok (.ireturn, 1) → va_P D vwCl [(m_h, .inr (5, [.ref m_now_a, .ref m_tape_a, .int m_typed, .int m_place, .int m_isFault, .ref m_read_a, .ref m_heard_a, .ref m_undone_a, .int m_undos, .ref m_aside_a, .ref m_kept_a, .int m_keptUndos, .int m_isKept, .ref m_lanes_a, .ref m_sizes_a, .ref m_items_a, .ref m_moved_a])), (m_now_a, .inl (cI, 65, .inl w_m_now))] H1 → va_D A [(m_h, .inr (5, [.ref m_now_a, .ref m_tape_a, .int m_typed, .int m_place, .int m_isFault, .ref m_read_a, .ref m_heard_a, .ref m_undone_a, .int m_undos, .ref m_aside_a, .ref m_kept_a, .int m_keptUndos, .int m_isKept, .ref m_lanes_a, .ref m_sizes_a, .ref m_items_a, .ref m_moved_a])), (m_now_a, .inl (cI, 65, .inl w_m_now))] → va_S A H0 H1 locs1 → W p l e R s m args below meth c H1 locs1 cells slots Q (F0 m pc1 ls1 [.int r0])) : W p l e R s m args below meth c H locs cells slots Q (F0 m 0 ls []) := by
  have hf_7 := hts (.fieldLink RX5 7 "SealedLipsModel" "now" "[I") (by decide +kernel)
  have hin_X5 : ∀ w ∈ wsX50, w ∈ wsX5_rule := by decide +kernel
  unfold fnX5_rule at hM
  refine lv_iload_n hx hb dX5_rule_0 rfl (lv_at hl 1 rfl) ?_
  obtain ⟨k_40, ek_40, hM⟩ := sx_lt_s hM
  have hk_40 : ∀ (H : Heap) (locs : List Loc) (ls : Array Slot), k_40 = some (r0, w_m_now) → lv_has ls 4 [(0, .ref m_h), (1, .int a1), (2, .int a2)] → va_P D vwCl [(m_h, .inr (5, [.ref m_now_a, .ref m_tape_a, .int m_typed, .int m_place, .int m_isFault, .ref m_read_a, .ref m_heard_a, .ref m_undone_a, .int m_undos, .ref m_aside_a, .ref m_kept_a, .int m_keptUndos, .int m_isKept, .ref m_lanes_a, .ref m_sizes_a, .ref m_items_a, .ref m_moved_a])), (m_now_a, .inl (cI, 65, .inl m_now))] H → va_D A [(m_h, .inr (5, [.ref m_now_a, .ref m_tape_a, .int m_typed, .int m_place, .int m_isFault, .ref m_read_a, .ref m_heard_a, .ref m_undone_a, .int m_undos, .ref m_aside_a, .ref m_kept_a, .int m_keptUndos, .int m_isKept, .ref m_lanes_a, .ref m_sizes_a, .ref m_items_a, .ref m_moved_a])), (m_now_a, .inl (cI, 65, .inl m_now))] → va_S A H0 H locs → W p l e R s m args below meth c H locs cells slots Q (F0 m 40 ls ([])) := by
    intro H locs ls hM hl hP hD hS
    rw [ek_40] at hM
    refine lv_aload_n hx hb dX5_rule_40 rfl (lv_at hl 0 rfl) ?_
    refine va_get (D := D) (ci := 5) (v := .ref m_now_a) (C := RX5) (T := TX5) (N := 17) hx hb hts hin_X5 hown hK hP 0 rfl rfl 0 (by decide) hf_7 (fun _ h9 => h9) rfl dX5_rule_41 ?_
    refine lv_iconst (v := 2) hx hb dX5_rule_44 (by decide) ?_
    refine lv_iload_n hx hb dX5_rule_45 rfl (lv_at hl 1 rfl) ?_
    refine lv_iadd hx hb dX5_rule_46 ?_
    obtain ⟨g1, hM⟩ := sx_gd_s hM
    refine va_iald hx hb hK hP 1 0 rfl rfl (sx_ib_s g1) dX5_rule_47 ?_
    obtain ⟨v2, ev2, hM⟩ := sx_nm_s hM
    refine W.eq (g2 := F0 m 48 ls (.int v2 :: [])) (by subst ev2; rfl) ?_
    refine lv_istore_n (lv' := [(3, .int v2), (0, .ref m_h), (1, .int a1), (2, .int a2)]) hx hb dX5_rule_48 rfl hl (by decide) rfl (fun ls hl => ?_)
    refine lv_aload_n hx hb dX5_rule_49 rfl (lv_at hl 1 rfl) ?_
    refine va_get (D := D) (ci := 5) (v := .ref m_now_a) (C := RX5) (T := TX5) (N := 17) hx hb hts hin_X5 hown hK hP 0 rfl rfl 0 (by decide) hf_7 (fun _ h9 => h9) rfl dX5_rule_50 ?_
    refine lv_iconst (v := 2) hx hb dX5_rule_53 (by decide) ?_
    refine lv_iload_n hx hb dX5_rule_54 rfl (lv_at hl 2 rfl) ?_
    refine lv_iadd hx hb dX5_rule_55 ?_
    refine lv_iload_n hx hb dX5_rule_56 rfl (lv_at hl 3 rfl) ?_
    obtain ⟨g3, hM⟩ := sx_gd_s hM
    refine va_iast hx hb hK hP hD hS 1 0 rfl rfl (sx_ib_s g3) dX5_rule_57 (fun H locs hP hD hS => ?_)
    have hP : va_P D vwCl [(m_h, .inr (5, [.ref m_now_a, .ref m_tape_a, .int m_typed, .int m_place, .int m_isFault, .ref m_read_a, .ref m_heard_a, .ref m_undone_a, .int m_undos, .ref m_aside_a, .ref m_kept_a, .int m_keptUndos, .int m_isKept, .ref m_lanes_a, .ref m_sizes_a, .ref m_items_a, .ref m_moved_a])), (m_now_a, .inl (cI, 65, .inl (upd m_now (((2 : Int32) + a1)).toNatClampNeg a2)))] H := hP
    have hD : va_D A [(m_h, .inr (5, [.ref m_now_a, .ref m_tape_a, .int m_typed, .int m_place, .int m_isFault, .ref m_read_a, .ref m_heard_a, .ref m_undone_a, .int m_undos, .ref m_aside_a, .ref m_kept_a, .int m_keptUndos, .int m_isKept, .ref m_lanes_a, .ref m_sizes_a, .ref m_items_a, .ref m_moved_a])), (m_now_a, .inl (cI, 65, .inl (upd m_now (((2 : Int32) + a1)).toNatClampNeg a2)))] := hD
    refine lv_iload_n hx hb dX5_rule_58 rfl (lv_at hl 0 rfl) ?_
    obtain ⟨rfl, rfl⟩ := sx_o2 hM
    exact hret _ _ _ _ dX5_rule_59 (hP.sub [0, 1] rfl) (hD.sub [0, 1] (by decide) rfl) hS
  refine lv_if_ne (tgt := 19) hx hb dX5_rule_1 (by decide) (fun c4 => ?_) (fun c4 => ?_)
  · replace hM := sx_iff c4 hM
    refine lv_iload_n hx hb dX5_rule_19 rfl (lv_at hl 1 rfl) ?_
    refine lv_iconst (v := 1) hx hb dX5_rule_20 (by decide) ?_
    refine lv_icmp_ne (tgt := 38) hx hb dX5_rule_21 (by decide) (fun c5 => ?_) (fun c5 => ?_)
    · replace hM := sx_iff c5 hM
      refine lv_iconst (v := -1) hx hb dX5_rule_38 (by decide) ?_
      obtain ⟨rfl, rfl⟩ := sx_o2 hM
      exact hret _ _ _ _ dX5_rule_39 (hP.sub [0, 1] rfl) (hD.sub [0, 1] (by decide) rfl) hS
    · replace hM := sx_ift c5 hM
      refine lv_iload_n hx hb dX5_rule_24 rfl (lv_at hl 2 rfl) ?_
      refine lv_i2l hx hb dX5_rule_25 rfl ?_
      refine lv_ldc2 (v := 2) hx hb hown (hts (.constantLong RX5 99 (2)) (by decide +kernel)) dX5_rule_26 ?_
      refine lv_ldc2 (v := 30) hx hb hown (hts (.constantLong RX5 101 (30)) (by decide +kernel)) dX5_rule_29 ?_
      obtain ⟨r6, hc7, hM⟩ := sx_c1_s hM
      refine sx_iS (As := [.long (a2).toInt64, .long (2 : Int64), .long (30 : Int64)]) (rest := []) (wc := []) (wr := [(m_h, .inr (5, [.ref m_now_a, .ref m_tape_a, .int m_typed, .int m_place, .int m_isFault, .ref m_read_a, .ref m_heard_a, .ref m_undone_a, .int m_undos, .ref m_aside_a, .ref m_kept_a, .int m_keptUndos, .int m_isKept, .ref m_lanes_a, .ref m_sizes_a, .ref m_items_a, .ref m_moved_a])), (m_now_a, .inl (cI, 65, .inl m_now))]) (w1 := []) ⟨hx, hb, hml, hown, hts⟩ (mtX5_in l D cI cJ cS H.size (a2).toInt64 (2 : Int64) (30 : Int64) F r6 hc7) (va_cwS 3 hts gX5_rule_X5_in rfl rfl rfl (by decide +kernel) ⟨Nat.le_trans (by decide) hRf, Nat.le_trans (by decide) hRl⟩) hK hN hP hD hS hA [] [0, 1] rfl (by decide) rfl (by decide) (by decide) rfl hl.1 rfl (Nat.le_of_ble_eq_true rfl) dX5_rule_32 hRc (fun H locs hP hD hS => ?_)
      have hP : va_P D vwCl [(m_h, .inr (5, [.ref m_now_a, .ref m_tape_a, .int m_typed, .int m_place, .int m_isFault, .ref m_read_a, .ref m_heard_a, .ref m_undone_a, .int m_undos, .ref m_aside_a, .ref m_kept_a, .int m_keptUndos, .int m_isKept, .ref m_lanes_a, .ref m_sizes_a, .ref m_items_a, .ref m_moved_a])), (m_now_a, .inl (cI, 65, .inl m_now))] H := hP
      have hD : va_D A [(m_h, .inr (5, [.ref m_now_a, .ref m_tape_a, .int m_typed, .int m_place, .int m_isFault, .ref m_read_a, .ref m_heard_a, .ref m_undone_a, .int m_undos, .ref m_aside_a, .ref m_kept_a, .int m_keptUndos, .int m_isKept, .ref m_lanes_a, .ref m_sizes_a, .ref m_items_a, .ref m_moved_a])), (m_now_a, .inl (cI, 65, .inl m_now))] := hD
      refine lv_if_ne (tgt := 40) hx hb dX5_rule_35 (by decide) (fun c8 => ?_) (fun c8 => ?_)
      · replace hM := sx_iff c8 hM
        exact hk_40 _ _ _ hM (lv_sub hl [0, 1, 2] rfl) (hP.sub [0, 1] rfl) (hD.sub [0, 1] (by decide) rfl) hS
      · replace hM := sx_ift c8 hM
        refine lv_iconst (v := -1) hx hb dX5_rule_38 (by decide) ?_
        obtain ⟨rfl, rfl⟩ := sx_o2 hM
        exact hret _ _ _ _ dX5_rule_39 (hP.sub [0, 1] rfl) (hD.sub [0, 1] (by decide) rfl) hS
  · replace hM := sx_ift c4 hM
    refine lv_iload_n hx hb dX5_rule_4 rfl (lv_at hl 2 rfl) ?_
    refine lv_i2l hx hb dX5_rule_5 rfl ?_
    refine lv_lconst (v := 1) hx hb dX5_rule_6 (by decide) ?_
    refine lv_ldc2 (v := 9) hx hb hown (hts (.constantLong RX5 50 (9)) (by decide +kernel)) dX5_rule_7 ?_
    obtain ⟨r9, hc10, hM⟩ := sx_c1_s hM
    refine sx_iS (As := [.long (a2).toInt64, .long (1 : Int64), .long (9 : Int64)]) (rest := []) (wc := []) (wr := [(m_h, .inr (5, [.ref m_now_a, .ref m_tape_a, .int m_typed, .int m_place, .int m_isFault, .ref m_read_a, .ref m_heard_a, .ref m_undone_a, .int m_undos, .ref m_aside_a, .ref m_kept_a, .int m_keptUndos, .int m_isKept, .ref m_lanes_a, .ref m_sizes_a, .ref m_items_a, .ref m_moved_a])), (m_now_a, .inl (cI, 65, .inl m_now))]) (w1 := []) ⟨hx, hb, hml, hown, hts⟩ (mtX5_in l D cI cJ cS H.size (a2).toInt64 (1 : Int64) (9 : Int64) F r9 hc10) (va_cwS 3 hts gX5_rule_X5_in rfl rfl rfl (by decide +kernel) ⟨Nat.le_trans (by decide) hRf, Nat.le_trans (by decide) hRl⟩) hK hN hP hD hS hA [] [0, 1] rfl (by decide) rfl (by decide) (by decide) rfl hl.1 rfl (Nat.le_of_ble_eq_true rfl) dX5_rule_10 hRc (fun H locs hP hD hS => ?_)
    have hP : va_P D vwCl [(m_h, .inr (5, [.ref m_now_a, .ref m_tape_a, .int m_typed, .int m_place, .int m_isFault, .ref m_read_a, .ref m_heard_a, .ref m_undone_a, .int m_undos, .ref m_aside_a, .ref m_kept_a, .int m_keptUndos, .int m_isKept, .ref m_lanes_a, .ref m_sizes_a, .ref m_items_a, .ref m_moved_a])), (m_now_a, .inl (cI, 65, .inl m_now))] H := hP
    have hD : va_D A [(m_h, .inr (5, [.ref m_now_a, .ref m_tape_a, .int m_typed, .int m_place, .int m_isFault, .ref m_read_a, .ref m_heard_a, .ref m_undone_a, .int m_undos, .ref m_aside_a, .ref m_kept_a, .int m_keptUndos, .int m_isKept, .ref m_lanes_a, .ref m_sizes_a, .ref m_items_a, .ref m_moved_a])), (m_now_a, .inl (cI, 65, .inl m_now))] := hD
    refine lv_if_ne (tgt := 40) hx hb dX5_rule_13 (by decide) (fun c11 => ?_) (fun c11 => ?_)
    · replace hM := sx_iff c11 hM
      exact hk_40 _ _ _ hM (lv_sub hl [0, 1, 2] rfl) (hP.sub [0, 1] rfl) (hD.sub [0, 1] (by decide) rfl) hS
    · replace hM := sx_ift c11 hM
      refine lv_goto (tgt := 38) hx hb dX5_rule_16 (by decide) ?_
      refine lv_iconst (v := -1) hx hb dX5_rule_38 (by decide) ?_
      obtain ⟨rfl, rfl⟩ := sx_o2 hM
      exact hret _ _ _ _ dX5_rule_39 (hP.sub [0, 1] rfl) (hD.sub [0, 1] (by decide) rfl) hS
set_option maxHeartbeats 4000000 in
set_option maxRecDepth 100000 in
theorem mtX5_rule (l : Launch) (D : va_G) (cI cJ cS : ClassId) (sz : Nat) (m_h m_now_a m_tape_a m_read_a m_heard_a m_undone_a m_aside_a m_kept_a m_lanes_a m_sizes_a m_items_a m_moved_a : Nat) (m_now : Nat → Int32) (m_typed : Int32) (m_place : Int32) (m_isFault : Int32) (m_undos : Int32) (m_keptUndos : Int32) (m_isKept : Int32) (a1 : Int32) (a2 : Int32) (F : Nat) (r0 : Int32) (w_m_now : Nat → Int32) (hM : fnX5_rule F m_now a1 a2 = some (r0, w_m_now)) : sx_MI l yX5_rule wsX5_rule ({ frames := 1, cells := 0, slots := 0, locals := 25 }) D (sx_T cI cJ cS) sz [.ref m_h, .int a1, .int a2] [(m_h, .inr (5, [.ref m_now_a, .ref m_tape_a, .int m_typed, .int m_place, .int m_isFault, .ref m_read_a, .ref m_heard_a, .ref m_undone_a, .int m_undos, .ref m_aside_a, .ref m_kept_a, .int m_keptUndos, .int m_isKept, .ref m_lanes_a, .ref m_sizes_a, .ref m_items_a, .ref m_moved_a])), (m_now_a, .inl (cI, 65, .inl m_now))] r0 [(m_h, .inr (5, [.ref m_now_a, .ref m_tape_a, .int m_typed, .int m_place, .int m_isFault, .ref m_read_a, .ref m_heard_a, .ref m_undone_a, .int m_undos, .ref m_aside_a, .ref m_kept_a, .int m_keptUndos, .int m_isKept, .ref m_lanes_a, .ref m_sizes_a, .ref m_items_a, .ref m_moved_a])), (m_now_a, .inl (cI, 65, .inl w_m_now))] := by
  refine Met.ofW (cc := cX5_rule) (maxL := 4) (ret := (some .int)) (by decide) rfl ?_
  intro p e s m args below meth c s₁ B hml hv
  obtain ⟨rfl, hsz, hN, hP, hK, hD0⟩ := hv
  subst hsz
  have hl := lv_entry ([.ref m_h, .int a1, .int a2]) (n := 4) (Nat.le_of_ble_eq_true rfl)
  rw [lg_entry_eq]
  generalize (lg_sl ([.ref m_h, .int a1, .int a2]) ++ List.replicate (4 - (lg_sl ([.ref m_h, .int a1, .int a2])).length) Slot.unset).toArray = ls at hl ⊢
  exact kwX5_rule B.exec B.bytes hml (findClass_of_methodNamed B.named) (atoms_spec (ws := wsX5_rule) B.pre) hN hK (fun q h => Or.inr h) (by decide) (by decide) ⟨Nat.zero_le _, Nat.zero_le _⟩ m_h m_now_a m_tape_a m_read_a m_heard_a m_undone_a m_aside_a m_kept_a m_lanes_a m_sizes_a m_items_a m_moved_a m_now m_typed m_place m_isFault m_undos m_keptUndos m_isKept a1 a2 F r0 w_m_now hM _ _ _ hl hP hD0.self va_S.rf (fun H1 locs1 ls1 pc1 hd hP hD hS => W.iret (v := r0) B.exec B.bytes B.returns (fun t ht hW => ⟨⟨r0, (), rfl, rfl, by rw [ht]; exact hP, hD⟩, hS.F ht⟩) hS.2.2 hd)
