def fnX5_count (F : Nat) (m_now : Nat → Int32) (m_undos : Int32) (a1 : Int32) : Option (Int32) :=
  (if a1 = (0 : Int32) then sx_gd (sx_ib a1 65) ((some ((m_now (a1).toNatClampNeg)))) else (if a1 = (1 : Int32) then sx_gd (sx_ib a1 65) ((some ((m_now (a1).toNatClampNeg)))) else (if a1 = (2 : Int32) then sx_gd (sx_ib a1 65) ((some ((m_now (a1).toNatClampNeg)))) else (if a1 = (3 : Int32) then sx_gd (sx_ib a1 65) ((some ((m_now (a1).toNatClampNeg)))) else (if a1 = (4 : Int32) then sx_c1 (fnX5_times F m_now) (fun (r10 : Int32) => (some (r10))) else (if a1 = (5 : Int32) then sx_c1 (fnX5_openOnes F m_now) (fun (r13 : Int32) => (some (r13))) else (if a1 = (6 : Int32) then sx_c1 (fnX5_outOnes F m_now) (fun (r16 : Int32) => (some (r16))) else (if a1 = (7 : Int32) then sx_gd (sx_nz (m_now ((3 : Int32)).toNatClampNeg)) ((some (((m_now ((3 : Int32)).toNatClampNeg) - ((m_now ((1 : Int32)).toNatClampNeg) - (m_now ((1 : Int32)).toNatClampNeg) / (m_now ((3 : Int32)).toNatClampNeg) * (m_now ((3 : Int32)).toNatClampNeg)))))) else (if a1 = (8 : Int32) then (some (m_undos)) else (some ((-1 : Int32))))))))))))
set_option maxHeartbeats 4000000 in
set_option maxRecDepth 100000 in
theorem kwX5_count {p : Program} {l : Launch} {e : Env} {R : Room} {s : State} {m : MethodId} {args : Array Value} {below : List Frame} {meth : Method} {c : Code} {cells slots : Nat} {Q : State → Prop} {A : Nat → Prop} {H0 : Heap} {D : va_G} {cI cJ cS : ClassId} (hx : p.tables.exec = Jvm.exec) (hb : c.code = cX5_count) (hml : c.maxLocals = 2) (hown : s.vm.findClass RX5 = some m.cls) (hts : ∀ w ∈ wsX5_count, w.before args s = true) (hN : sx_N s) (hK : va_K D vwCl (sx_T cI cJ cS) s) (hA : ∀ q, H0.size ≤ q → A q) (hRf : 5 ≤ R.frames) (hRl : 110 ≤ R.locals) (hRc : cells ≤ R.cells ∧ slots ≤ R.slots) (m_h m_now_a m_tape_a m_read_a m_heard_a m_undone_a m_aside_a m_kept_a m_lanes_a m_sizes_a m_items_a m_moved_a : Nat) (m_now : Nat → Int32) (m_typed : Int32) (m_place : Int32) (m_isFault : Int32) (m_undos : Int32) (m_keptUndos : Int32) (m_isKept : Int32) (a1 : Int32) (F : Nat) (r0 : Int32) (hM : fnX5_count F m_now m_undos a1 = some r0) (H : Heap) (locs : List Loc) (ls : Array Slot) (hl : lv_has ls 2 [(0, .ref m_h), (1, .int a1)]) (hP : va_P D vwCl [(m_h, .inr (5, [.ref m_now_a, .ref m_tape_a, .int m_typed, .int m_place, .int m_isFault, .ref m_read_a, .ref m_heard_a, .ref m_undone_a, .int m_undos, .ref m_aside_a, .ref m_kept_a, .int m_keptUndos, .int m_isKept, .ref m_lanes_a, .ref m_sizes_a, .ref m_items_a, .ref m_moved_a])), (m_now_a, .inl (cI, 65, .inl m_now))] H) (hD : va_D A [(m_h, .inr (5, [.ref m_now_a, .ref m_tape_a, .int m_typed, .int m_place, .int m_isFault, .ref m_read_a, .ref m_heard_a, .ref m_undone_a, .int m_undos, .ref m_aside_a, .ref m_kept_a, .int m_keptUndos, .int m_isKept, .ref m_lanes_a, .ref m_sizes_a, .ref m_items_a, .ref m_moved_a])), (m_now_a, .inl (cI, 65, .inl m_now))]) (hS : va_S A H0 H locs)
    (hret : ∀ (H1 : Heap) (locs1 : List Loc) (ls1 : Array Slot) (pc1 : Nat), decode cX5_count pc1 = .ok (.ireturn, 1) → va_P D vwCl [(m_h, .inr (5, [.ref m_now_a, .ref m_tape_a, .int m_typed, .int m_place, .int m_isFault, .ref m_read_a, .ref m_heard_a, .ref m_undone_a, .int m_undos, .ref m_aside_a, .ref m_kept_a, .int m_keptUndos, .int m_isKept, .ref m_lanes_a, .ref m_sizes_a, .ref m_items_a, .ref m_moved_a])), (m_now_a, .inl (cI, 65, .inl m_now))] H1 → va_D A [(m_h, .inr (5, [.ref m_now_a, .ref m_tape_a, .int m_typed, .int m_place, .int m_isFault, .ref m_read_a, .ref m_heard_a, .ref m_undone_a, .int m_undos, .ref m_aside_a, .ref m_kept_a, .int m_keptUndos, .int m_isKept, .ref m_lanes_a, .ref m_sizes_a, .ref m_items_a, .ref m_moved_a])), (m_now_a, .inl (cI, 65, .inl m_now))] → va_S A H0 H1 locs1 → W p l e R s m args below meth c H1 locs1 cells slots Q (F0 m pc1 ls1 [.int r0])) : W p l e R s m args below meth c H locs cells slots Q (F0 m 0 ls []) := by
  have hf_7 := hts (.fieldLink RX5 7 "SealedLipsModel" "now" "[I") (by decide +kernel)
  have hf_77 := hts (.fieldLink RX5 77 "SealedLipsModel" "undos" "I") (by decide +kernel)
  have hin_X5 : ∀ w ∈ wsX50, w ∈ wsX5_count := by decide +kernel
  unfold fnX5_count at hM
  refine lv_iload_n hx hb dX5_count_0 rfl (lv_at hl 1 rfl) ?_
  by_cases c1 : a1 = (0 : Int32)
  · replace hM := sx_ift c1 hM
    refine lv_tableIn (off := 51) (tgt := 52) hx hb dX5_count_1 (by rw [c1]; decide) (by rw [c1]; decide) (by rw [c1]; decide) (by decide) ?_
    refine lv_aload_n hx hb dX5_count_52 rfl (lv_at hl 0 rfl) ?_
    refine va_get (D := D) (ci := 5) (v := .ref m_now_a) (C := RX5) (T := TX5) (N := 17) hx hb hts hin_X5 hown hK hP 0 rfl rfl 0 (by decide) hf_7 (fun _ h9 => h9) rfl dX5_count_53 ?_
    refine lv_iload_n hx hb dX5_count_56 rfl (lv_at hl 1 rfl) ?_
    obtain ⟨g2, hM⟩ := sx_gd_s hM
    refine va_iald hx hb hK hP 1 0 rfl rfl (sx_ib_s g2) dX5_count_57 ?_
    obtain rfl := sx_o1 hM
    exact hret _ _ _ _ dX5_count_58 (hP.sub [0, 1] rfl) (hD.sub [0, 1] (by decide) rfl) hS
  · replace hM := sx_iff c1 hM
    have c1t : ¬ a1.toInt = 0 := fun h => c1 (Int32.toInt_inj.mp (h.trans (by decide)))
    by_cases c3 : a1 = (1 : Int32)
    · replace hM := sx_ift c3 hM
      refine lv_tableIn (off := 51) (tgt := 52) hx hb dX5_count_1 (by rw [c3]; decide) (by rw [c3]; decide) (by rw [c3]; decide) (by decide) ?_
      refine lv_aload_n hx hb dX5_count_52 rfl (lv_at hl 0 rfl) ?_
      refine va_get (D := D) (ci := 5) (v := .ref m_now_a) (C := RX5) (T := TX5) (N := 17) hx hb hts hin_X5 hown hK hP 0 rfl rfl 0 (by decide) hf_7 (fun _ h9 => h9) rfl dX5_count_53 ?_
      refine lv_iload_n hx hb dX5_count_56 rfl (lv_at hl 1 rfl) ?_
      obtain ⟨g4, hM⟩ := sx_gd_s hM
      refine va_iald hx hb hK hP 1 0 rfl rfl (sx_ib_s g4) dX5_count_57 ?_
      obtain rfl := sx_o1 hM
      exact hret _ _ _ _ dX5_count_58 (hP.sub [0, 1] rfl) (hD.sub [0, 1] (by decide) rfl) hS
    · replace hM := sx_iff c3 hM
      have c3t : ¬ a1.toInt = 1 := fun h => c3 (Int32.toInt_inj.mp (h.trans (by decide)))
      by_cases c5 : a1 = (2 : Int32)
      · replace hM := sx_ift c5 hM
        refine lv_tableIn (off := 51) (tgt := 52) hx hb dX5_count_1 (by rw [c5]; decide) (by rw [c5]; decide) (by rw [c5]; decide) (by decide) ?_
        refine lv_aload_n hx hb dX5_count_52 rfl (lv_at hl 0 rfl) ?_
        refine va_get (D := D) (ci := 5) (v := .ref m_now_a) (C := RX5) (T := TX5) (N := 17) hx hb hts hin_X5 hown hK hP 0 rfl rfl 0 (by decide) hf_7 (fun _ h9 => h9) rfl dX5_count_53 ?_
        refine lv_iload_n hx hb dX5_count_56 rfl (lv_at hl 1 rfl) ?_
        obtain ⟨g6, hM⟩ := sx_gd_s hM
        refine va_iald hx hb hK hP 1 0 rfl rfl (sx_ib_s g6) dX5_count_57 ?_
        obtain rfl := sx_o1 hM
        exact hret _ _ _ _ dX5_count_58 (hP.sub [0, 1] rfl) (hD.sub [0, 1] (by decide) rfl) hS
      · replace hM := sx_iff c5 hM
        have c5t : ¬ a1.toInt = 2 := fun h => c5 (Int32.toInt_inj.mp (h.trans (by decide)))
        by_cases c7 : a1 = (3 : Int32)
        · replace hM := sx_ift c7 hM
          refine lv_tableIn (off := 51) (tgt := 52) hx hb dX5_count_1 (by rw [c7]; decide) (by rw [c7]; decide) (by rw [c7]; decide) (by decide) ?_
          refine lv_aload_n hx hb dX5_count_52 rfl (lv_at hl 0 rfl) ?_
          refine va_get (D := D) (ci := 5) (v := .ref m_now_a) (C := RX5) (T := TX5) (N := 17) hx hb hts hin_X5 hown hK hP 0 rfl rfl 0 (by decide) hf_7 (fun _ h9 => h9) rfl dX5_count_53 ?_
          refine lv_iload_n hx hb dX5_count_56 rfl (lv_at hl 1 rfl) ?_
          obtain ⟨g8, hM⟩ := sx_gd_s hM
          refine va_iald hx hb hK hP 1 0 rfl rfl (sx_ib_s g8) dX5_count_57 ?_
          obtain rfl := sx_o1 hM
          exact hret _ _ _ _ dX5_count_58 (hP.sub [0, 1] rfl) (hD.sub [0, 1] (by decide) rfl) hS
        · replace hM := sx_iff c7 hM
          have c7t : ¬ a1.toInt = 3 := fun h => c7 (Int32.toInt_inj.mp (h.trans (by decide)))
          by_cases c9 : a1 = (4 : Int32)
          · replace hM := sx_ift c9 hM
            refine lv_tableIn (off := 58) (tgt := 59) hx hb dX5_count_1 (by rw [c9]; decide) (by rw [c9]; decide) (by rw [c9]; decide) (by decide) ?_
            refine lv_aload_n hx hb dX5_count_59 rfl (lv_at hl 0 rfl) ?_
            obtain ⟨r10, hc11, hM⟩ := sx_c1_s hM
            refine sx_iV (As := []) (rest := []) (wc := [(m_h, .inr (5, [.ref m_now_a, .ref m_tape_a, .int m_typed, .int m_place, .int m_isFault, .ref m_read_a, .ref m_heard_a, .ref m_undone_a, .int m_undos, .ref m_aside_a, .ref m_kept_a, .int m_keptUndos, .int m_isKept, .ref m_lanes_a, .ref m_sizes_a, .ref m_items_a, .ref m_moved_a])), (m_now_a, .inl (cI, 65, .inl m_now))]) (wr := []) (w1 := [(m_h, .inr (5, [.ref m_now_a, .ref m_tape_a, .int m_typed, .int m_place, .int m_isFault, .ref m_read_a, .ref m_heard_a, .ref m_undone_a, .int m_undos, .ref m_aside_a, .ref m_kept_a, .int m_keptUndos, .int m_isKept, .ref m_lanes_a, .ref m_sizes_a, .ref m_items_a, .ref m_moved_a])), (m_now_a, .inl (cI, 65, .inl m_now))]) ⟨hx, hb, hml, hown, hts⟩ (mtX5_times l D cI cJ cS H.size m_h m_now_a m_tape_a m_read_a m_heard_a m_undone_a m_aside_a m_kept_a m_lanes_a m_sizes_a m_items_a m_moved_a m_now m_typed m_place m_isFault m_undos m_keptUndos m_isKept F r10 hc11) (cwV 0 hts gX5_count_X5_times rfl rfl rfl (by decide +kernel) ⟨Nat.le_trans (by decide) hRf, Nat.le_trans (by decide) hRl⟩) hK hN hP hD hS hA [0, 1] [] rfl (by decide) rfl (by decide) (by decide) rfl rfl rfl rfl hl.1 rfl (Nat.le_of_ble_eq_true rfl) dX5_count_60 hRc (fun H locs hP hD hS => ?_)
            have hP : va_P D vwCl [(m_h, .inr (5, [.ref m_now_a, .ref m_tape_a, .int m_typed, .int m_place, .int m_isFault, .ref m_read_a, .ref m_heard_a, .ref m_undone_a, .int m_undos, .ref m_aside_a, .ref m_kept_a, .int m_keptUndos, .int m_isKept, .ref m_lanes_a, .ref m_sizes_a, .ref m_items_a, .ref m_moved_a])), (m_now_a, .inl (cI, 65, .inl m_now))] H := hP
            have hD : va_D A [(m_h, .inr (5, [.ref m_now_a, .ref m_tape_a, .int m_typed, .int m_place, .int m_isFault, .ref m_read_a, .ref m_heard_a, .ref m_undone_a, .int m_undos, .ref m_aside_a, .ref m_kept_a, .int m_keptUndos, .int m_isKept, .ref m_lanes_a, .ref m_sizes_a, .ref m_items_a, .ref m_moved_a])), (m_now_a, .inl (cI, 65, .inl m_now))] := hD
            obtain rfl := sx_o1 hM
            exact hret _ _ _ _ dX5_count_63 (hP.sub [0, 1] rfl) (hD.sub [0, 1] (by decide) rfl) hS
          · replace hM := sx_iff c9 hM
            have c9t : ¬ a1.toInt = 4 := fun h => c9 (Int32.toInt_inj.mp (h.trans (by decide)))
            by_cases c12 : a1 = (5 : Int32)
            · replace hM := sx_ift c12 hM
              refine lv_tableIn (off := 63) (tgt := 64) hx hb dX5_count_1 (by rw [c12]; decide) (by rw [c12]; decide) (by rw [c12]; decide) (by decide) ?_
              refine lv_aload_n hx hb dX5_count_64 rfl (lv_at hl 0 rfl) ?_
              obtain ⟨r13, hc14, hM⟩ := sx_c1_s hM
              refine sx_iV (As := []) (rest := []) (wc := [(m_h, .inr (5, [.ref m_now_a, .ref m_tape_a, .int m_typed, .int m_place, .int m_isFault, .ref m_read_a, .ref m_heard_a, .ref m_undone_a, .int m_undos, .ref m_aside_a, .ref m_kept_a, .int m_keptUndos, .int m_isKept, .ref m_lanes_a, .ref m_sizes_a, .ref m_items_a, .ref m_moved_a])), (m_now_a, .inl (cI, 65, .inl m_now))]) (wr := []) (w1 := [(m_h, .inr (5, [.ref m_now_a, .ref m_tape_a, .int m_typed, .int m_place, .int m_isFault, .ref m_read_a, .ref m_heard_a, .ref m_undone_a, .int m_undos, .ref m_aside_a, .ref m_kept_a, .int m_keptUndos, .int m_isKept, .ref m_lanes_a, .ref m_sizes_a, .ref m_items_a, .ref m_moved_a])), (m_now_a, .inl (cI, 65, .inl m_now))]) ⟨hx, hb, hml, hown, hts⟩ (mtX5_openOnes l D cI cJ cS H.size m_h m_now_a m_tape_a m_read_a m_heard_a m_undone_a m_aside_a m_kept_a m_lanes_a m_sizes_a m_items_a m_moved_a m_now m_typed m_place m_isFault m_undos m_keptUndos m_isKept F r13 hc14) (cwV 0 hts gX5_count_X5_openOnes rfl rfl rfl (by decide +kernel) ⟨Nat.le_trans (by decide) hRf, Nat.le_trans (by decide) hRl⟩) hK hN hP hD hS hA [0, 1] [] rfl (by decide) rfl (by decide) (by decide) rfl rfl rfl rfl hl.1 rfl (Nat.le_of_ble_eq_true rfl) dX5_count_65 hRc (fun H locs hP hD hS => ?_)
              have hP : va_P D vwCl [(m_h, .inr (5, [.ref m_now_a, .ref m_tape_a, .int m_typed, .int m_place, .int m_isFault, .ref m_read_a, .ref m_heard_a, .ref m_undone_a, .int m_undos, .ref m_aside_a, .ref m_kept_a, .int m_keptUndos, .int m_isKept, .ref m_lanes_a, .ref m_sizes_a, .ref m_items_a, .ref m_moved_a])), (m_now_a, .inl (cI, 65, .inl m_now))] H := hP
              have hD : va_D A [(m_h, .inr (5, [.ref m_now_a, .ref m_tape_a, .int m_typed, .int m_place, .int m_isFault, .ref m_read_a, .ref m_heard_a, .ref m_undone_a, .int m_undos, .ref m_aside_a, .ref m_kept_a, .int m_keptUndos, .int m_isKept, .ref m_lanes_a, .ref m_sizes_a, .ref m_items_a, .ref m_moved_a])), (m_now_a, .inl (cI, 65, .inl m_now))] := hD
              obtain rfl := sx_o1 hM
              exact hret _ _ _ _ dX5_count_68 (hP.sub [0, 1] rfl) (hD.sub [0, 1] (by decide) rfl) hS
            · replace hM := sx_iff c12 hM
              have c12t : ¬ a1.toInt = 5 := fun h => c12 (Int32.toInt_inj.mp (h.trans (by decide)))
              by_cases c15 : a1 = (6 : Int32)
              · replace hM := sx_ift c15 hM
                refine lv_tableIn (off := 68) (tgt := 69) hx hb dX5_count_1 (by rw [c15]; decide) (by rw [c15]; decide) (by rw [c15]; decide) (by decide) ?_
                refine lv_aload_n hx hb dX5_count_69 rfl (lv_at hl 0 rfl) ?_
                obtain ⟨r16, hc17, hM⟩ := sx_c1_s hM
                refine sx_iV (As := []) (rest := []) (wc := [(m_h, .inr (5, [.ref m_now_a, .ref m_tape_a, .int m_typed, .int m_place, .int m_isFault, .ref m_read_a, .ref m_heard_a, .ref m_undone_a, .int m_undos, .ref m_aside_a, .ref m_kept_a, .int m_keptUndos, .int m_isKept, .ref m_lanes_a, .ref m_sizes_a, .ref m_items_a, .ref m_moved_a])), (m_now_a, .inl (cI, 65, .inl m_now))]) (wr := []) (w1 := [(m_h, .inr (5, [.ref m_now_a, .ref m_tape_a, .int m_typed, .int m_place, .int m_isFault, .ref m_read_a, .ref m_heard_a, .ref m_undone_a, .int m_undos, .ref m_aside_a, .ref m_kept_a, .int m_keptUndos, .int m_isKept, .ref m_lanes_a, .ref m_sizes_a, .ref m_items_a, .ref m_moved_a])), (m_now_a, .inl (cI, 65, .inl m_now))]) ⟨hx, hb, hml, hown, hts⟩ (mtX5_outOnes l D cI cJ cS H.size m_h m_now_a m_tape_a m_read_a m_heard_a m_undone_a m_aside_a m_kept_a m_lanes_a m_sizes_a m_items_a m_moved_a m_now m_typed m_place m_isFault m_undos m_keptUndos m_isKept F r16 hc17) (cwV 0 hts gX5_count_X5_outOnes rfl rfl rfl (by decide +kernel) ⟨Nat.le_trans (by decide) hRf, Nat.le_trans (by decide) hRl⟩) hK hN hP hD hS hA [0, 1] [] rfl (by decide) rfl (by decide) (by decide) rfl rfl rfl rfl hl.1 rfl (Nat.le_of_ble_eq_true rfl) dX5_count_70 hRc (fun H locs hP hD hS => ?_)
                have hP : va_P D vwCl [(m_h, .inr (5, [.ref m_now_a, .ref m_tape_a, .int m_typed, .int m_place, .int m_isFault, .ref m_read_a, .ref m_heard_a, .ref m_undone_a, .int m_undos, .ref m_aside_a, .ref m_kept_a, .int m_keptUndos, .int m_isKept, .ref m_lanes_a, .ref m_sizes_a, .ref m_items_a, .ref m_moved_a])), (m_now_a, .inl (cI, 65, .inl m_now))] H := hP
                have hD : va_D A [(m_h, .inr (5, [.ref m_now_a, .ref m_tape_a, .int m_typed, .int m_place, .int m_isFault, .ref m_read_a, .ref m_heard_a, .ref m_undone_a, .int m_undos, .ref m_aside_a, .ref m_kept_a, .int m_keptUndos, .int m_isKept, .ref m_lanes_a, .ref m_sizes_a, .ref m_items_a, .ref m_moved_a])), (m_now_a, .inl (cI, 65, .inl m_now))] := hD
                obtain rfl := sx_o1 hM
                exact hret _ _ _ _ dX5_count_73 (hP.sub [0, 1] rfl) (hD.sub [0, 1] (by decide) rfl) hS
              · replace hM := sx_iff c15 hM
                have c15t : ¬ a1.toInt = 6 := fun h => c15 (Int32.toInt_inj.mp (h.trans (by decide)))
                by_cases c18 : a1 = (7 : Int32)
                · replace hM := sx_ift c18 hM
                  refine lv_tableIn (off := 73) (tgt := 74) hx hb dX5_count_1 (by rw [c18]; decide) (by rw [c18]; decide) (by rw [c18]; decide) (by decide) ?_
                  refine lv_aload_n hx hb dX5_count_74 rfl (lv_at hl 0 rfl) ?_
                  refine va_get (D := D) (ci := 5) (v := .ref m_now_a) (C := RX5) (T := TX5) (N := 17) hx hb hts hin_X5 hown hK hP 0 rfl rfl 0 (by decide) hf_7 (fun _ h9 => h9) rfl dX5_count_75 ?_
                  refine lv_iconst (v := 3) hx hb dX5_count_78 (by decide) ?_
                  refine va_iald hx hb hK hP 1 0 rfl rfl (sx_ib_s (by decide)) dX5_count_79 ?_
                  refine lv_aload_n hx hb dX5_count_80 rfl (lv_at hl 0 rfl) ?_
                  refine va_get (D := D) (ci := 5) (v := .ref m_now_a) (C := RX5) (T := TX5) (N := 17) hx hb hts hin_X5 hown hK hP 0 rfl rfl 0 (by decide) hf_7 (fun _ h9 => h9) rfl dX5_count_81 ?_
                  refine lv_iconst (v := 1) hx hb dX5_count_84 (by decide) ?_
                  refine va_iald hx hb hK hP 1 0 rfl rfl (sx_ib_s (by decide)) dX5_count_85 ?_
                  refine lv_aload_n hx hb dX5_count_86 rfl (lv_at hl 0 rfl) ?_
                  refine va_get (D := D) (ci := 5) (v := .ref m_now_a) (C := RX5) (T := TX5) (N := 17) hx hb hts hin_X5 hown hK hP 0 rfl rfl 0 (by decide) hf_7 (fun _ h9 => h9) rfl dX5_count_87 ?_
                  refine lv_iconst (v := 3) hx hb dX5_count_90 (by decide) ?_
                  refine va_iald hx hb hK hP 1 0 rfl rfl (sx_ib_s (by decide)) dX5_count_91 ?_
                  obtain ⟨g19, hM⟩ := sx_gd_s hM
                  refine lv_irem hx hb dX5_count_92 (sx_nz_s g19) ?_
                  refine lv_isub hx hb dX5_count_93 ?_
                  obtain rfl := sx_o1 hM
                  exact hret _ _ _ _ dX5_count_94 (hP.sub [0, 1] rfl) (hD.sub [0, 1] (by decide) rfl) hS
                · replace hM := sx_iff c18 hM
                  have c18t : ¬ a1.toInt = 7 := fun h => c18 (Int32.toInt_inj.mp (h.trans (by decide)))
                  by_cases c20 : a1 = (8 : Int32)
                  · replace hM := sx_ift c20 hM
                    refine lv_tableIn (off := 94) (tgt := 95) hx hb dX5_count_1 (by rw [c20]; decide) (by rw [c20]; decide) (by rw [c20]; decide) (by decide) ?_
                    refine lv_aload_n hx hb dX5_count_95 rfl (lv_at hl 0 rfl) ?_
                    refine va_get (D := D) (ci := 5) (v := .int m_undos) (C := RX5) (T := TX5) (N := 17) hx hb hts hin_X5 hown hK hP 0 rfl rfl 8 (by decide) hf_77 (fun _ h9 => h9) rfl dX5_count_96 ?_
                    obtain rfl := sx_o1 hM
                    exact hret _ _ _ _ dX5_count_99 (hP.sub [0, 1] rfl) (hD.sub [0, 1] (by decide) rfl) hS
                  · replace hM := sx_iff c20 hM
                    have c20t : ¬ a1.toInt = 8 := fun h => c20 (Int32.toInt_inj.mp (h.trans (by decide)))
                    refine lv_tableOut (tgt := 100) hx hb dX5_count_1 (by omega) (by decide) ?_
                    refine lv_iconst (v := -1) hx hb dX5_count_100 (by decide) ?_
                    obtain rfl := sx_o1 hM
                    exact hret _ _ _ _ dX5_count_101 (hP.sub [0, 1] rfl) (hD.sub [0, 1] (by decide) rfl) hS
set_option maxHeartbeats 4000000 in
set_option maxRecDepth 100000 in
theorem mtX5_count (l : Launch) (D : va_G) (cI cJ cS : ClassId) (sz : Nat) (m_h m_now_a m_tape_a m_read_a m_heard_a m_undone_a m_aside_a m_kept_a m_lanes_a m_sizes_a m_items_a m_moved_a : Nat) (m_now : Nat → Int32) (m_typed : Int32) (m_place : Int32) (m_isFault : Int32) (m_undos : Int32) (m_keptUndos : Int32) (m_isKept : Int32) (a1 : Int32) (F : Nat) (r0 : Int32) (hM : fnX5_count F m_now m_undos a1 = some r0) : sx_MI l yX5_count wsX5_count ({ frames := 5, cells := 0, slots := 0, locals := 110 }) D (sx_T cI cJ cS) sz [.ref m_h, .int a1] [(m_h, .inr (5, [.ref m_now_a, .ref m_tape_a, .int m_typed, .int m_place, .int m_isFault, .ref m_read_a, .ref m_heard_a, .ref m_undone_a, .int m_undos, .ref m_aside_a, .ref m_kept_a, .int m_keptUndos, .int m_isKept, .ref m_lanes_a, .ref m_sizes_a, .ref m_items_a, .ref m_moved_a])), (m_now_a, .inl (cI, 65, .inl m_now))] r0 [(m_h, .inr (5, [.ref m_now_a, .ref m_tape_a, .int m_typed, .int m_place, .int m_isFault, .ref m_read_a, .ref m_heard_a, .ref m_undone_a, .int m_undos, .ref m_aside_a, .ref m_kept_a, .int m_keptUndos, .int m_isKept, .ref m_lanes_a, .ref m_sizes_a, .ref m_items_a, .ref m_moved_a])), (m_now_a, .inl (cI, 65, .inl m_now))] := by
  refine Met.ofW (cc := cX5_count) (maxL := 2) (ret := (some .int)) (by decide) rfl ?_
  intro p e s m args below meth c s₁ B hml hv
  obtain ⟨rfl, hsz, hN, hP, hK, hD0⟩ := hv
  subst hsz
  have hl := lv_entry ([.ref m_h, .int a1]) (n := 2) (Nat.le_of_ble_eq_true rfl)
  rw [lg_entry_eq]
  generalize (lg_sl ([.ref m_h, .int a1]) ++ List.replicate (2 - (lg_sl ([.ref m_h, .int a1])).length) Slot.unset).toArray = ls at hl ⊢
  exact kwX5_count B.exec B.bytes hml (findClass_of_methodNamed B.named) (atoms_spec (ws := wsX5_count) B.pre) hN hK (fun q h => Or.inr h) (by decide) (by decide) ⟨Nat.zero_le _, Nat.zero_le _⟩ m_h m_now_a m_tape_a m_read_a m_heard_a m_undone_a m_aside_a m_kept_a m_lanes_a m_sizes_a m_items_a m_moved_a m_now m_typed m_place m_isFault m_undos m_keptUndos m_isKept a1 F r0 hM _ _ _ hl hP hD0.self va_S.rf (fun H1 locs1 ls1 pc1 hd hP hD hS => W.iret (v := r0) B.exec B.bytes B.returns (fun t ht hW => ⟨⟨r0, (), rfl, rfl, by rw [ht]; exact hP, hD⟩, hS.F ht⟩) hS.2.2 hd)

def fnX5_type (F : Nat) (m_tape : Nat → Int32) (m_typed : Int32) (a1 : Int32) : Option (Int32 × (Nat → Int32) × Int32) :=
  sx_c1 (fnX5_in F (a1).toInt64 (32 : Int64) (126 : Int64)) (fun (r1 : Int32) => (if r1 = 0 then (some ((-1 : Int32), m_tape, m_typed)) else (if m_typed = (70 : Int32) then (some ((-3 : Int32), m_tape, m_typed)) else sx_gd (sx_ib m_typed 70) ((some ((m_typed + (1 : Int32)), (upd m_tape (m_typed).toNatClampNeg a1), (m_typed + (1 : Int32))))))))
set_option maxHeartbeats 4000000 in
set_option maxRecDepth 100000 in
theorem kwX5_type {p : Program} {l : Launch} {e : Env} {R : Room} {s : State} {m : MethodId} {args : Array Value} {below : List Frame} {meth : Method} {c : Code} {cells slots : Nat} {Q : State → Prop} {A : Nat → Prop} {H0 : Heap} {D : va_G} {cI cJ cS : ClassId} (hx : p.tables.exec = Jvm.exec) (hb : c.code = cX5_type) (hml : c.maxLocals = 2) (hown : s.vm.findClass RX5 = some m.cls) (hts : ∀ w ∈ wsX5_type, w.before args s = true) (hN : sx_N s) (hK : va_K D vwCl (sx_T cI cJ cS) s) (hA : ∀ q, H0.size ≤ q → A q) (hRf : 1 ≤ R.frames) (hRl : 25 ≤ R.locals) (hRc : cells ≤ R.cells ∧ slots ≤ R.slots) (m_h m_now_a m_tape_a m_read_a m_heard_a m_undone_a m_aside_a m_kept_a m_lanes_a m_sizes_a m_items_a m_moved_a : Nat) (m_tape : Nat → Int32) (m_typed : Int32) (m_place : Int32) (m_isFault : Int32) (m_undos : Int32) (m_keptUndos : Int32) (m_isKept : Int32) (a1 : Int32) (F : Nat) (r0 : Int32) (w_m_tape : Nat → Int32) (w_m_typed : Int32) (hM : fnX5_type F m_tape m_typed a1 = some (r0, w_m_tape, w_m_typed)) (H : Heap) (locs : List Loc) (ls : Array Slot) (hl : lv_has ls 2 [(0, .ref m_h), (1, .int a1)]) (hP : va_P D vwCl [(m_h, .inr (5, [.ref m_now_a, .ref m_tape_a, .int m_typed, .int m_place, .int m_isFault, .ref m_read_a, .ref m_heard_a, .ref m_undone_a, .int m_undos, .ref m_aside_a, .ref m_kept_a, .int m_keptUndos, .int m_isKept, .ref m_lanes_a, .ref m_sizes_a, .ref m_items_a, .ref m_moved_a])), (m_tape_a, .inl (cI, 70, .inl m_tape))] H) (hD : va_D A [(m_h, .inr (5, [.ref m_now_a, .ref m_tape_a, .int m_typed, .int m_place, .int m_isFault, .ref m_read_a, .ref m_heard_a, .ref m_undone_a, .int m_undos, .ref m_aside_a, .ref m_kept_a, .int m_keptUndos, .int m_isKept, .ref m_lanes_a, .ref m_sizes_a, .ref m_items_a, .ref m_moved_a])), (m_tape_a, .inl (cI, 70, .inl m_tape))]) (hS : va_S A H0 H locs)
    (hret : ∀ (H1 : Heap) (locs1 : List Loc) (ls1 : Array Slot) (pc1 : Nat), decode cX5_type pc1 = .ok (.ireturn, 1) → va_P D vwCl [(m_h, .inr (5, [.ref m_now_a, .ref m_tape_a, .int w_m_typed, .int m_place, .int m_isFault, .ref m_read_a, .ref m_heard_a, .ref m_undone_a, .int m_undos, .ref m_aside_a, .ref m_kept_a, .int m_keptUndos, .int m_isKept, .ref m_lanes_a, .ref m_sizes_a, .ref m_items_a, .ref m_moved_a])), (m_tape_a, .inl (cI, 70, .inl w_m_tape))] H1 → va_D A [(m_h, .inr (5, [.ref m_now_a, .ref m_tape_a, .int w_m_typed, .int m_place, .int m_isFault, .ref m_read_a, .ref m_heard_a, .ref m_undone_a, .int m_undos, .ref m_aside_a, .ref m_kept_a, .int m_keptUndos, .int m_isKept, .ref m_lanes_a, .ref m_sizes_a, .ref m_items_a, .ref m_moved_a])), (m_tape_a, .inl (cI, 70, .inl w_m_tape))] → va_S A H0 H1 locs1 → W p l e R s m args below meth c H1 locs1 cells slots Q (F0 m pc1 ls1 [.int r0])) : W p l e R s m args below meth c H locs cells slots Q (F0 m 0 ls []) := by
  have hf_13 := hts (.fieldLink RX5 13 "SealedLipsModel" "tape" "[I") (by decide +kernel)
  have hf_117 := hts (.fieldLink RX5 117 "SealedLipsModel" "typed" "I") (by decide +kernel)
  have hin_X5 : ∀ w ∈ wsX50, w ∈ wsX5_type := by decide +kernel
  unfold fnX5_type at hM
  refine lv_iload_n hx hb dX5_type_0 rfl (lv_at hl 1 rfl) ?_
  refine lv_i2l hx hb dX5_type_1 rfl ?_
  refine lv_ldc2 (v := 32) hx hb hown (hts (.constantLong RX5 113 (32)) (by decide +kernel)) dX5_type_2 ?_
  refine lv_ldc2 (v := 126) hx hb hown (hts (.constantLong RX5 115 (126)) (by decide +kernel)) dX5_type_5 ?_
  obtain ⟨r1, hc2, hM⟩ := sx_c1_s hM
  refine sx_iS (As := [.long (a1).toInt64, .long (32 : Int64), .long (126 : Int64)]) (rest := []) (wc := []) (wr := [(m_h, .inr (5, [.ref m_now_a, .ref m_tape_a, .int m_typed, .int m_place, .int m_isFault, .ref m_read_a, .ref m_heard_a, .ref m_undone_a, .int m_undos, .ref m_aside_a, .ref m_kept_a, .int m_keptUndos, .int m_isKept, .ref m_lanes_a, .ref m_sizes_a, .ref m_items_a, .ref m_moved_a])), (m_tape_a, .inl (cI, 70, .inl m_tape))]) (w1 := []) ⟨hx, hb, hml, hown, hts⟩ (mtX5_in l D cI cJ cS H.size (a1).toInt64 (32 : Int64) (126 : Int64) F r1 hc2) (va_cwS 3 hts gX5_type_X5_in rfl rfl rfl (by decide +kernel) ⟨Nat.le_trans (by decide) hRf, Nat.le_trans (by decide) hRl⟩) hK hN hP hD hS hA [] [0, 1] rfl (by decide) rfl (by decide) (by decide) rfl hl.1 rfl (Nat.le_of_ble_eq_true rfl) dX5_type_8 hRc (fun H locs hP hD hS => ?_)
  have hP : va_P D vwCl [(m_h, .inr (5, [.ref m_now_a, .ref m_tape_a, .int m_typed, .int m_place, .int m_isFault, .ref m_read_a, .ref m_heard_a, .ref m_undone_a, .int m_undos, .ref m_aside_a, .ref m_kept_a, .int m_keptUndos, .int m_isKept, .ref m_lanes_a, .ref m_sizes_a, .ref m_items_a, .ref m_moved_a])), (m_tape_a, .inl (cI, 70, .inl m_tape))] H := hP
  have hD : va_D A [(m_h, .inr (5, [.ref m_now_a, .ref m_tape_a, .int m_typed, .int m_place, .int m_isFault, .ref m_read_a, .ref m_heard_a, .ref m_undone_a, .int m_undos, .ref m_aside_a, .ref m_kept_a, .int m_keptUndos, .int m_isKept, .ref m_lanes_a, .ref m_sizes_a, .ref m_items_a, .ref m_moved_a])), (m_tape_a, .inl (cI, 70, .inl m_tape))] := hD
  refine lv_if_ne (tgt := 16) hx hb dX5_type_11 (by decide) (fun c3 => ?_) (fun c3 => ?_)
  · replace hM := sx_iff c3 hM
    refine lv_aload_n hx hb dX5_type_16 rfl (lv_at hl 0 rfl) ?_
    refine va_get (D := D) (ci := 5) (v := .int m_typed) (C := RX5) (T := TX5) (N := 17) hx hb hts hin_X5 hown hK hP 0 rfl rfl 2 (by decide) hf_117 (fun _ h9 => h9) rfl dX5_type_17 ?_
    refine lv_bipush (v := 70) hx hb dX5_type_20 (by decide) ?_
    refine lv_icmp_ne (tgt := 28) hx hb dX5_type_22 (by decide) (fun c4 => ?_) (fun c4 => ?_)
    · replace hM := sx_iff c4 hM
      refine lv_aload_n hx hb dX5_type_28 rfl (lv_at hl 0 rfl) ?_
      refine va_get (D := D) (ci := 5) (v := .ref m_tape_a) (C := RX5) (T := TX5) (N := 17) hx hb hts hin_X5 hown hK hP 0 rfl rfl 1 (by decide) hf_13 (fun _ h9 => h9) rfl dX5_type_29 ?_
      refine lv_aload_n hx hb dX5_type_32 rfl (lv_at hl 0 rfl) ?_
      refine va_get (D := D) (ci := 5) (v := .int m_typed) (C := RX5) (T := TX5) (N := 17) hx hb hts hin_X5 hown hK hP 0 rfl rfl 2 (by decide) hf_117 (fun _ h9 => h9) rfl dX5_type_33 ?_
      refine lv_iload_n hx hb dX5_type_36 rfl (lv_at hl 1 rfl) ?_
      obtain ⟨g5, hM⟩ := sx_gd_s hM
      refine va_iast hx hb hK hP hD hS 1 0 rfl rfl (sx_ib_s g5) dX5_type_37 (fun H locs hP hD hS => ?_)
      have hP : va_P D vwCl [(m_h, .inr (5, [.ref m_now_a, .ref m_tape_a, .int m_typed, .int m_place, .int m_isFault, .ref m_read_a, .ref m_heard_a, .ref m_undone_a, .int m_undos, .ref m_aside_a, .ref m_kept_a, .int m_keptUndos, .int m_isKept, .ref m_lanes_a, .ref m_sizes_a, .ref m_items_a, .ref m_moved_a])), (m_tape_a, .inl (cI, 70, .inl (upd m_tape (m_typed).toNatClampNeg a1)))] H := hP
      have hD : va_D A [(m_h, .inr (5, [.ref m_now_a, .ref m_tape_a, .int m_typed, .int m_place, .int m_isFault, .ref m_read_a, .ref m_heard_a, .ref m_undone_a, .int m_undos, .ref m_aside_a, .ref m_kept_a, .int m_keptUndos, .int m_isKept, .ref m_lanes_a, .ref m_sizes_a, .ref m_items_a, .ref m_moved_a])), (m_tape_a, .inl (cI, 70, .inl (upd m_tape (m_typed).toNatClampNeg a1)))] := hD
      refine lv_aload_n hx hb dX5_type_38 rfl (lv_at hl 0 rfl) ?_
      refine lv_dup hx hb dX5_type_39 rfl ?_
      refine va_get (D := D) (ci := 5) (v := .int m_typed) (C := RX5) (T := TX5) (N := 17) hx hb hts hin_X5 hown hK hP 0 rfl rfl 2 (by decide) hf_117 (fun _ h9 => h9) rfl dX5_type_40 ?_
      refine lv_iconst (v := 1) hx hb dX5_type_43 (by decide) ?_
      refine lv_iadd hx hb dX5_type_44 ?_
      refine va_put (D := D) (ci := 5) (v := .int (m_typed + (1 : Int32))) (ty := .int) (C := RX5) (T := TX5) (N := 17) hx hb hts hin_X5 tyX5 tyX5_ok nmX5 hown hK hP hD hS 0 rfl rfl 2 (by decide) hf_117 (fun _ h9 => h9) rfl (tyX5_ok 2 (by decide)) rfl rfl (Nat.le_of_ble_eq_true rfl) dX5_type_45 (fun H locs hP hD hS => ?_)
      have hP : va_P D vwCl [(m_h, .inr (5, [.ref m_now_a, .ref m_tape_a, .int (m_typed + (1 : Int32)), .int m_place, .int m_isFault, .ref m_read_a, .ref m_heard_a, .ref m_undone_a, .int m_undos, .ref m_aside_a, .ref m_kept_a, .int m_keptUndos, .int m_isKept, .ref m_lanes_a, .ref m_sizes_a, .ref m_items_a, .ref m_moved_a])), (m_tape_a, .inl (cI, 70, .inl (upd m_tape (m_typed).toNatClampNeg a1)))] H := hP
      have hD : va_D A [(m_h, .inr (5, [.ref m_now_a, .ref m_tape_a, .int (m_typed + (1 : Int32)), .int m_place, .int m_isFault, .ref m_read_a, .ref m_heard_a, .ref m_undone_a, .int m_undos, .ref m_aside_a, .ref m_kept_a, .int m_keptUndos, .int m_isKept, .ref m_lanes_a, .ref m_sizes_a, .ref m_items_a, .ref m_moved_a])), (m_tape_a, .inl (cI, 70, .inl (upd m_tape (m_typed).toNatClampNeg a1)))] := hD
      refine lv_aload_n hx hb dX5_type_48 rfl (lv_at hl 0 rfl) ?_
      refine va_get (D := D) (ci := 5) (v := .int (m_typed + (1 : Int32))) (C := RX5) (T := TX5) (N := 17) hx hb hts hin_X5 hown hK hP 0 rfl rfl 2 (by decide) hf_117 (fun _ h9 => h9) rfl dX5_type_49 ?_
      obtain ⟨rfl, rfl, rfl⟩ := sx_o3 hM
      exact hret _ _ _ _ dX5_type_52 (hP.sub [0, 1] rfl) (hD.sub [0, 1] (by decide) rfl) hS
    · replace hM := sx_ift c4 hM
      refine lv_bipush (v := -3) hx hb dX5_type_25 (by decide) ?_
      obtain ⟨rfl, rfl, rfl⟩ := sx_o3 hM
      exact hret _ _ _ _ dX5_type_27 (hP.sub [0, 1] rfl) (hD.sub [0, 1] (by decide) rfl) hS
  · replace hM := sx_ift c3 hM
    refine lv_iconst (v := -1) hx hb dX5_type_14 (by decide) ?_
    obtain ⟨rfl, rfl, rfl⟩ := sx_o3 hM
    exact hret _ _ _ _ dX5_type_15 (hP.sub [0, 1] rfl) (hD.sub [0, 1] (by decide) rfl) hS
set_option maxHeartbeats 4000000 in
set_option maxRecDepth 100000 in
theorem mtX5_type (l : Launch) (D : va_G) (cI cJ cS : ClassId) (sz : Nat) (m_h m_now_a m_tape_a m_read_a m_heard_a m_undone_a m_aside_a m_kept_a m_lanes_a m_sizes_a m_items_a m_moved_a : Nat) (m_tape : Nat → Int32) (m_typed : Int32) (m_place : Int32) (m_isFault : Int32) (m_undos : Int32) (m_keptUndos : Int32) (m_isKept : Int32) (a1 : Int32) (F : Nat) (r0 : Int32) (w_m_tape : Nat → Int32) (w_m_typed : Int32) (hM : fnX5_type F m_tape m_typed a1 = some (r0, w_m_tape, w_m_typed)) : sx_MI l yX5_type wsX5_type ({ frames := 1, cells := 0, slots := 0, locals := 25 }) D (sx_T cI cJ cS) sz [.ref m_h, .int a1] [(m_h, .inr (5, [.ref m_now_a, .ref m_tape_a, .int m_typed, .int m_place, .int m_isFault, .ref m_read_a, .ref m_heard_a, .ref m_undone_a, .int m_undos, .ref m_aside_a, .ref m_kept_a, .int m_keptUndos, .int m_isKept, .ref m_lanes_a, .ref m_sizes_a, .ref m_items_a, .ref m_moved_a])), (m_tape_a, .inl (cI, 70, .inl m_tape))] r0 [(m_h, .inr (5, [.ref m_now_a, .ref m_tape_a, .int w_m_typed, .int m_place, .int m_isFault, .ref m_read_a, .ref m_heard_a, .ref m_undone_a, .int m_undos, .ref m_aside_a, .ref m_kept_a, .int m_keptUndos, .int m_isKept, .ref m_lanes_a, .ref m_sizes_a, .ref m_items_a, .ref m_moved_a])), (m_tape_a, .inl (cI, 70, .inl w_m_tape))] := by
  refine Met.ofW (cc := cX5_type) (maxL := 2) (ret := (some .int)) (by decide) rfl ?_
  intro p e s m args below meth c s₁ B hml hv
  obtain ⟨rfl, hsz, hN, hP, hK, hD0⟩ := hv
  subst hsz
  have hl := lv_entry ([.ref m_h, .int a1]) (n := 2) (Nat.le_of_ble_eq_true rfl)
  rw [lg_entry_eq]
  generalize (lg_sl ([.ref m_h, .int a1]) ++ List.replicate (2 - (lg_sl ([.ref m_h, .int a1])).length) Slot.unset).toArray = ls at hl ⊢
  exact kwX5_type B.exec B.bytes hml (findClass_of_methodNamed B.named) (atoms_spec (ws := wsX5_type) B.pre) hN hK (fun q h => Or.inr h) (by decide) (by decide) ⟨Nat.zero_le _, Nat.zero_le _⟩ m_h m_now_a m_tape_a m_read_a m_heard_a m_undone_a m_aside_a m_kept_a m_lanes_a m_sizes_a m_items_a m_moved_a m_tape m_typed m_place m_isFault m_undos m_keptUndos m_isKept a1 F r0 w_m_tape w_m_typed hM _ _ _ hl hP hD0.self va_S.rf (fun H1 locs1 ls1 pc1 hd hP hD hS => W.iret (v := r0) B.exec B.bytes B.returns (fun t ht hW => ⟨⟨r0, (), rfl, rfl, by rw [ht]; exact hP, hD⟩, hS.F ht⟩) hS.2.2 hd)

def bdX5_here_0 (F : Nat) (m_tape : Nat → Int32) (m_typed : Int32) (kf_38 : Int32 → Option (Int32 × Int32)) (r_ : Int32 → Option (Int32 × Int32)) (m_place : Int32) : Option (Int32 × Int32) :=
  (if m_typed ≤ m_place then (kf_38 m_place) else sx_gd (sx_ib m_place 70) ((if (m_tape (m_place).toNatClampNeg) = (32 : Int32) then (r_ (m_place + (1 : Int32))) else (kf_38 m_place))))
def fnX5_here (F : Nat) (m_tape : Nat → Int32) (m_typed : Int32) (m_place : Int32) : Option (Int32 × Int32) :=
  sx_lt (fun (z1 : Int32) => (if m_typed ≤ z1 then (some ((0 : Int32), z1)) else sx_gd (sx_ib z1 70) ((some ((m_tape (z1).toNatClampNeg), z1))))) (fun (k_38 : Int32 → Option (Int32 × Int32)) => sx_lp1 (bdX5_here_0 F m_tape m_typed k_38) F m_place)
set_option maxHeartbeats 4000000 in
set_option maxRecDepth 100000 in
theorem kwX5_here {p : Program} {l : Launch} {e : Env} {R : Room} {s : State} {m : MethodId} {args : Array Value} {below : List Frame} {meth : Method} {c : Code} {cells slots : Nat} {Q : State → Prop} {A : Nat → Prop} {H0 : Heap} {D : va_G} {cI cJ cS : ClassId} (hx : p.tables.exec = Jvm.exec) (hb : c.code = cX5_here) (hml : c.maxLocals = 1) (hown : s.vm.findClass RX5 = some m.cls) (hts : ∀ w ∈ wsX5_here, w.before args s = true) (hN : sx_N s) (hK : va_K D vwCl (sx_T cI cJ cS) s) (hA : ∀ q, H0.size ≤ q → A q) (hRf : 0 ≤ R.frames) (hRl : 0 ≤ R.locals) (hRc : cells ≤ R.cells ∧ slots ≤ R.slots) (m_h m_now_a m_tape_a m_read_a m_heard_a m_undone_a m_aside_a m_kept_a m_lanes_a m_sizes_a m_items_a m_moved_a : Nat) (m_tape : Nat → Int32) (m_typed : Int32) (m_place : Int32) (m_isFault : Int32) (m_undos : Int32) (m_keptUndos : Int32) (m_isKept : Int32) (F : Nat) (r0 : Int32) (w_m_place : Int32) (hM : fnX5_here F m_tape m_typed m_place = some (r0, w_m_place)) (H : Heap) (locs : List Loc) (ls : Array Slot) (hl : lv_has ls 1 [(0, .ref m_h)]) (hP : va_P D vwCl [(m_h, .inr (5, [.ref m_now_a, .ref m_tape_a, .int m_typed, .int m_place, .int m_isFault, .ref m_read_a, .ref m_heard_a, .ref m_undone_a, .int m_undos, .ref m_aside_a, .ref m_kept_a, .int m_keptUndos, .int m_isKept, .ref m_lanes_a, .ref m_sizes_a, .ref m_items_a, .ref m_moved_a])), (m_tape_a, .inl (cI, 70, .inl m_tape))] H) (hD : va_D A [(m_h, .inr (5, [.ref m_now_a, .ref m_tape_a, .int m_typed, .int m_place, .int m_isFault, .ref m_read_a, .ref m_heard_a, .ref m_undone_a, .int m_undos, .ref m_aside_a, .ref m_kept_a, .int m_keptUndos, .int m_isKept, .ref m_lanes_a, .ref m_sizes_a, .ref m_items_a, .ref m_moved_a])), (m_tape_a, .inl (cI, 70, .inl m_tape))]) (hS : va_S A H0 H locs)
    (hret : ∀ (H1 : Heap) (locs1 : List Loc) (ls1 : Array Slot) (pc1 : Nat), decode cX5_here pc1 = .ok (.ireturn, 1) → va_P D vwCl [(m_h, .inr (5, [.ref m_now_a, .ref m_tape_a, .int m_typed, .int w_m_place, .int m_isFault, .ref m_read_a, .ref m_heard_a, .ref m_undone_a, .int m_undos, .ref m_aside_a, .ref m_kept_a, .int m_keptUndos, .int m_isKept, .ref m_lanes_a, .ref m_sizes_a, .ref m_items_a, .ref m_moved_a])), (m_tape_a, .inl (cI, 70, .inl m_tape))] H1 → va_D A [(m_h, .inr (5, [.ref m_now_a, .ref m_tape_a, .int m_typed, .int w_m_place, .int m_isFault, .ref m_read_a, .ref m_heard_a, .ref m_undone_a, .int m_undos, .ref m_aside_a, .ref m_kept_a, .int m_keptUndos, .int m_isKept, .ref m_lanes_a, .ref m_sizes_a, .ref m_items_a, .ref m_moved_a])), (m_tape_a, .inl (cI, 70, .inl m_tape))] → va_S A H0 H1 locs1 → W p l e R s m args below meth c H1 locs1 cells slots Q (F0 m pc1 ls1 [.int r0])) : W p l e R s m args below meth c H locs cells slots Q (F0 m 0 ls []) := by
  have hf_13 := hts (.fieldLink RX5 13 "SealedLipsModel" "tape" "[I") (by decide +kernel)
  have hf_117 := hts (.fieldLink RX5 117 "SealedLipsModel" "typed" "I") (by decide +kernel)
  have hf_120 := hts (.fieldLink RX5 120 "SealedLipsModel" "place" "I") (by decide +kernel)
  have hin_X5 : ∀ w ∈ wsX50, w ∈ wsX5_here := by decide +kernel
  unfold fnX5_here at hM
  obtain ⟨k_38, ek_38, hM⟩ := sx_lt_s hM
  have hk_38 : ∀ (z1 : Int32) (H : Heap) (locs : List Loc) (ls : Array Slot), k_38 z1 = some (r0, w_m_place) → lv_has ls 1 [(0, .ref m_h)] → va_P D vwCl [(m_h, .inr (5, [.ref m_now_a, .ref m_tape_a, .int m_typed, .int z1, .int m_isFault, .ref m_read_a, .ref m_heard_a, .ref m_undone_a, .int m_undos, .ref m_aside_a, .ref m_kept_a, .int m_keptUndos, .int m_isKept, .ref m_lanes_a, .ref m_sizes_a, .ref m_items_a, .ref m_moved_a])), (m_tape_a, .inl (cI, 70, .inl m_tape))] H → va_D A [(m_h, .inr (5, [.ref m_now_a, .ref m_tape_a, .int m_typed, .int z1, .int m_isFault, .ref m_read_a, .ref m_heard_a, .ref m_undone_a, .int m_undos, .ref m_aside_a, .ref m_kept_a, .int m_keptUndos, .int m_isKept, .ref m_lanes_a, .ref m_sizes_a, .ref m_items_a, .ref m_moved_a])), (m_tape_a, .inl (cI, 70, .inl m_tape))] → va_S A H0 H locs → W p l e R s m args below meth c H locs cells slots Q (F0 m 38 ls ([])) := by
    intro z1 H locs ls hM hl hP hD hS
    rw [ek_38] at hM
    refine lv_aload_n hx hb dX5_here_38 rfl (lv_at hl 0 rfl) ?_
    refine va_get (D := D) (ci := 5) (v := .int z1) (C := RX5) (T := TX5) (N := 17) hx hb hts hin_X5 hown hK hP 0 rfl rfl 3 (by decide) hf_120 (fun _ h9 => h9) rfl dX5_here_39 ?_
    refine lv_aload_n hx hb dX5_here_42 rfl (lv_at hl 0 rfl) ?_
    refine va_get (D := D) (ci := 5) (v := .int m_typed) (C := RX5) (T := TX5) (N := 17) hx hb hts hin_X5 hown hK hP 0 rfl rfl 2 (by decide) hf_117 (fun _ h9 => h9) rfl dX5_here_43 ?_
    refine lv_icmp_ge (tgt := 61) hx hb dX5_here_46 (by decide) (fun c2 => ?_) (fun c2 => ?_)
    · replace hM := sx_ift c2 hM
      refine lv_iconst (v := 0) hx hb dX5_here_61 (by decide) ?_
      obtain ⟨rfl, rfl⟩ := sx_o2 hM
      exact hret _ _ _ _ dX5_here_62 (hP.sub [0, 1] rfl) (hD.sub [0, 1] (by decide) rfl) hS
    · replace hM := sx_iff c2 hM
      refine lv_aload_n hx hb dX5_here_49 rfl (lv_at hl 0 rfl) ?_
      refine va_get (D := D) (ci := 5) (v := .ref m_tape_a) (C := RX5) (T := TX5) (N := 17) hx hb hts hin_X5 hown hK hP 0 rfl rfl 1 (by decide) hf_13 (fun _ h9 => h9) rfl dX5_here_50 ?_
      refine lv_aload_n hx hb dX5_here_53 rfl (lv_at hl 0 rfl) ?_
      refine va_get (D := D) (ci := 5) (v := .int z1) (C := RX5) (T := TX5) (N := 17) hx hb hts hin_X5 hown hK hP 0 rfl rfl 3 (by decide) hf_120 (fun _ h9 => h9) rfl dX5_here_54 ?_
      obtain ⟨g3, hM⟩ := sx_gd_s hM
      refine va_iald hx hb hK hP 1 0 rfl rfl (sx_ib_s g3) dX5_here_57 ?_
      refine lv_goto (tgt := 62) hx hb dX5_here_58 (by decide) ?_
      obtain ⟨rfl, rfl⟩ := sx_o2 hM
      exact hret _ _ _ _ dX5_here_62 (hP.sub [0, 1] rfl) (hD.sub [0, 1] (by decide) rfl) hS
  have lp_0 : ∀ (n : Nat) (z4 : Int32) (H : Heap) (locs : List Loc) (ls : Array Slot), sx_lp1 (bdX5_here_0 F m_tape m_typed k_38) n z4 = some (r0, w_m_place) → lv_has ls 1 [(0, .ref m_h)] → va_P D vwCl [(m_h, .inr (5, [.ref m_now_a, .ref m_tape_a, .int m_typed, .int z4, .int m_isFault, .ref m_read_a, .ref m_heard_a, .ref m_undone_a, .int m_undos, .ref m_aside_a, .ref m_kept_a, .int m_keptUndos, .int m_isKept, .ref m_lanes_a, .ref m_sizes_a, .ref m_items_a, .ref m_moved_a])), (m_tape_a, .inl (cI, 70, .inl m_tape))] H → va_D A [(m_h, .inr (5, [.ref m_now_a, .ref m_tape_a, .int m_typed, .int z4, .int m_isFault, .ref m_read_a, .ref m_heard_a, .ref m_undone_a, .int m_undos, .ref m_aside_a, .ref m_kept_a, .int m_keptUndos, .int m_isKept, .ref m_lanes_a, .ref m_sizes_a, .ref m_items_a, .ref m_moved_a])), (m_tape_a, .inl (cI, 70, .inl m_tape))] → va_S A H0 H locs → W p l e R s m args below meth c H locs cells slots Q (F0 m 0 ls ([])) := by
    intro n
    induction n with
    | zero => intro z4 H locs ls hM; exact (sx_lp1_0 hM).elim
    | succ n ih =>
      intro z4 H locs ls hM hl hP hD hS
      have hM : bdX5_here_0 F m_tape m_typed k_38 (sx_lp1 (bdX5_here_0 F m_tape m_typed k_38) n) z4 = some (r0, w_m_place) := hM
      generalize sx_lp1 (bdX5_here_0 F m_tape m_typed k_38) n = r_0 at hM ih
      unfold bdX5_here_0 at hM
      refine lv_aload_n hx hb dX5_here_0 rfl (lv_at hl 0 rfl) ?_
      refine va_get (D := D) (ci := 5) (v := .int z4) (C := RX5) (T := TX5) (N := 17) hx hb hts hin_X5 hown hK hP 0 rfl rfl 3 (by decide) hf_120 (fun _ h9 => h9) rfl dX5_here_1 ?_
      refine lv_aload_n hx hb dX5_here_4 rfl (lv_at hl 0 rfl) ?_
      refine va_get (D := D) (ci := 5) (v := .int m_typed) (C := RX5) (T := TX5) (N := 17) hx hb hts hin_X5 hown hK hP 0 rfl rfl 2 (by decide) hf_117 (fun _ h9 => h9) rfl dX5_here_5 ?_
      refine lv_icmp_ge (tgt := 38) hx hb dX5_here_8 (by decide) (fun c5 => ?_) (fun c5 => ?_)
      · replace hM := sx_ift c5 hM
        exact hk_38 z4 _ _ _ hM (lv_sub hl [0] rfl) (hP.sub [0, 1] rfl) (hD.sub [0, 1] (by decide) rfl) hS
      · replace hM := sx_iff c5 hM
        refine lv_aload_n hx hb dX5_here_11 rfl (lv_at hl 0 rfl) ?_
        refine va_get (D := D) (ci := 5) (v := .ref m_tape_a) (C := RX5) (T := TX5) (N := 17) hx hb hts hin_X5 hown hK hP 0 rfl rfl 1 (by decide) hf_13 (fun _ h9 => h9) rfl dX5_here_12 ?_
        refine lv_aload_n hx hb dX5_here_15 rfl (lv_at hl 0 rfl) ?_
        refine va_get (D := D) (ci := 5) (v := .int z4) (C := RX5) (T := TX5) (N := 17) hx hb hts hin_X5 hown hK hP 0 rfl rfl 3 (by decide) hf_120 (fun _ h9 => h9) rfl dX5_here_16 ?_
        obtain ⟨g6, hM⟩ := sx_gd_s hM
        refine va_iald hx hb hK hP 1 0 rfl rfl (sx_ib_s g6) dX5_here_19 ?_
        refine lv_bipush (v := 32) hx hb dX5_here_20 (by decide) ?_
        refine lv_icmp_ne (tgt := 38) hx hb dX5_here_22 (by decide) (fun c7 => ?_) (fun c7 => ?_)
        · replace hM := sx_iff c7 hM
          exact hk_38 z4 _ _ _ hM (lv_sub hl [0] rfl) (hP.sub [0, 1] rfl) (hD.sub [0, 1] (by decide) rfl) hS
        · replace hM := sx_ift c7 hM
          refine lv_aload_n hx hb dX5_here_25 rfl (lv_at hl 0 rfl) ?_
          refine lv_dup hx hb dX5_here_26 rfl ?_
          refine va_get (D := D) (ci := 5) (v := .int z4) (C := RX5) (T := TX5) (N := 17) hx hb hts hin_X5 hown hK hP 0 rfl rfl 3 (by decide) hf_120 (fun _ h9 => h9) rfl dX5_here_27 ?_
          refine lv_iconst (v := 1) hx hb dX5_here_30 (by decide) ?_
          refine lv_iadd hx hb dX5_here_31 ?_
          refine va_put (D := D) (ci := 5) (v := .int (z4 + (1 : Int32))) (ty := .int) (C := RX5) (T := TX5) (N := 17) hx hb hts hin_X5 tyX5 tyX5_ok nmX5 hown hK hP hD hS 0 rfl rfl 3 (by decide) hf_120 (fun _ h9 => h9) rfl (tyX5_ok 3 (by decide)) rfl rfl (Nat.le_of_ble_eq_true rfl) dX5_here_32 (fun H locs hP hD hS => ?_)
          have hP : va_P D vwCl [(m_h, .inr (5, [.ref m_now_a, .ref m_tape_a, .int m_typed, .int (z4 + (1 : Int32)), .int m_isFault, .ref m_read_a, .ref m_heard_a, .ref m_undone_a, .int m_undos, .ref m_aside_a, .ref m_kept_a, .int m_keptUndos, .int m_isKept, .ref m_lanes_a, .ref m_sizes_a, .ref m_items_a, .ref m_moved_a])), (m_tape_a, .inl (cI, 70, .inl m_tape))] H := hP
          have hD : va_D A [(m_h, .inr (5, [.ref m_now_a, .ref m_tape_a, .int m_typed, .int (z4 + (1 : Int32)), .int m_isFault, .ref m_read_a, .ref m_heard_a, .ref m_undone_a, .int m_undos, .ref m_aside_a, .ref m_kept_a, .int m_keptUndos, .int m_isKept, .ref m_lanes_a, .ref m_sizes_a, .ref m_items_a, .ref m_moved_a])), (m_tape_a, .inl (cI, 70, .inl m_tape))] := hD
          refine lv_goto (tgt := 0) hx hb dX5_here_35 (by decide) ?_
          exact ih (z4 + (1 : Int32)) _ _ _ hM (lv_sub hl [0] rfl) (hP.sub [0, 1] rfl) (hD.sub [0, 1] (by decide) rfl) hS
  exact lp_0 F m_place _ _ _ hM (lv_sub hl [0] rfl) (hP.sub [0, 1] rfl) (hD.sub [0, 1] (by decide) rfl) hS
set_option maxHeartbeats 4000000 in
set_option maxRecDepth 100000 in
theorem mtX5_here (l : Launch) (D : va_G) (cI cJ cS : ClassId) (sz : Nat) (m_h m_now_a m_tape_a m_read_a m_heard_a m_undone_a m_aside_a m_kept_a m_lanes_a m_sizes_a m_items_a m_moved_a : Nat) (m_tape : Nat → Int32) (m_typed : Int32) (m_place : Int32) (m_isFault : Int32) (m_undos : Int32) (m_keptUndos : Int32) (m_isKept : Int32) (F : Nat) (r0 : Int32) (w_m_place : Int32) (hM : fnX5_here F m_tape m_typed m_place = some (r0, w_m_place)) : sx_MI l yX5_here wsX5_here ({ frames := 0, cells := 0, slots := 0, locals := 0 }) D (sx_T cI cJ cS) sz [.ref m_h] [(m_h, .inr (5, [.ref m_now_a, .ref m_tape_a, .int m_typed, .int m_place, .int m_isFault, .ref m_read_a, .ref m_heard_a, .ref m_undone_a, .int m_undos, .ref m_aside_a, .ref m_kept_a, .int m_keptUndos, .int m_isKept, .ref m_lanes_a, .ref m_sizes_a, .ref m_items_a, .ref m_moved_a])), (m_tape_a, .inl (cI, 70, .inl m_tape))] r0 [(m_h, .inr (5, [.ref m_now_a, .ref m_tape_a, .int m_typed, .int w_m_place, .int m_isFault, .ref m_read_a, .ref m_heard_a, .ref m_undone_a, .int m_undos, .ref m_aside_a, .ref m_kept_a, .int m_keptUndos, .int m_isKept, .ref m_lanes_a, .ref m_sizes_a, .ref m_items_a, .ref m_moved_a])), (m_tape_a, .inl (cI, 70, .inl m_tape))] := by
  refine Met.ofW (cc := cX5_here) (maxL := 1) (ret := (some .int)) (by decide) rfl ?_
  intro p e s m args below meth c s₁ B hml hv
  obtain ⟨rfl, hsz, hN, hP, hK, hD0⟩ := hv
  subst hsz
  have hl := lv_entry ([.ref m_h]) (n := 1) (Nat.le_of_ble_eq_true rfl)
  rw [lg_entry_eq]
  generalize (lg_sl ([.ref m_h]) ++ List.replicate (1 - (lg_sl ([.ref m_h])).length) Slot.unset).toArray = ls at hl ⊢
  exact kwX5_here B.exec B.bytes hml (findClass_of_methodNamed B.named) (atoms_spec (ws := wsX5_here) B.pre) hN hK (fun q h => Or.inr h) (by decide) (by decide) ⟨Nat.zero_le _, Nat.zero_le _⟩ m_h m_now_a m_tape_a m_read_a m_heard_a m_undone_a m_aside_a m_kept_a m_lanes_a m_sizes_a m_items_a m_moved_a m_tape m_typed m_place m_isFault m_undos m_keptUndos m_isKept F r0 w_m_place hM _ _ _ hl hP hD0.self va_S.rf (fun H1 locs1 ls1 pc1 hd hP hD hS => W.iret (v := r0) B.exec B.bytes B.returns (fun t ht hW => ⟨⟨r0, (), rfl, rfl, by rw [ht]; exact hP, hD⟩, hS.F ht⟩) hS.2.2 hd)

def fnX5_must (F : Nat) (m_place : Int32) (m_isFault : Int32) (a1 : Int32) : Option (Int32 × Int32) :=
  sx_lt (fun (y1 : Int32) => sx_gd (sx_bl y1) ((if y1 = 0 then (some ((m_place + (1 : Int32)), y1)) else (some ((m_place + (0 : Int32)), y1))))) (fun (k_17 : Int32 → Option (Int32 × Int32)) => (if m_isFault = 0 then (if a1 = 0 then (k_17 (1 : Int32)) else (k_17 (0 : Int32))) else (k_17 (1 : Int32))))
set_option maxHeartbeats 4000000 in
set_option maxRecDepth 100000 in
theorem kwX5_must {p : Program} {l : Launch} {e : Env} {R : Room} {s : State} {m : MethodId} {args : Array Value} {below : List Frame} {meth : Method} {c : Code} {cells slots : Nat} {Q : State → Prop} {A : Nat → Prop} {H0 : Heap} {D : va_G} {cI cJ cS : ClassId} (hx : p.tables.exec = Jvm.exec) (hb : c.code = cX5_must) (hml : c.maxLocals = 2) (hown : s.vm.findClass RX5 = some m.cls) (hts : ∀ w ∈ wsX5_must, w.before args s = true) (hN : sx_N s) (hK : va_K D vwCl (sx_T cI cJ cS) s) (hA : ∀ q, H0.size ≤ q → A q) (hRf : 0 ≤ R.frames) (hRl : 0 ≤ R.locals) (hRc : cells ≤ R.cells ∧ slots ≤ R.slots) (m_h m_now_a m_tape_a m_read_a m_heard_a m_undone_a m_aside_a m_kept_a m_lanes_a m_sizes_a m_items_a m_moved_a : Nat) (m_typed : Int32) (m_place : Int32) (m_isFault : Int32) (m_undos : Int32) (m_keptUndos : Int32) (m_isKept : Int32) (a1 : Int32) (F : Nat) (w_m_place : Int32) (w_m_isFault : Int32) (hM : fnX5_must F m_place m_isFault a1 = some (w_m_place, w_m_isFault)) (H : Heap) (locs : List Loc) (ls : Array Slot) (hl : lv_has ls 2 [(0, .ref m_h), (1, .int a1)]) (hP : va_P D vwCl [(m_h, .inr (5, [.ref m_now_a, .ref m_tape_a, .int m_typed, .int m_place, .int m_isFault, .ref m_read_a, .ref m_heard_a, .ref m_undone_a, .int m_undos, .ref m_aside_a, .ref m_kept_a, .int m_keptUndos, .int m_isKept, .ref m_lanes_a, .ref m_sizes_a, .ref m_items_a, .ref m_moved_a]))] H) (hD : va_D A [(m_h, .inr (5, [.ref m_now_a, .ref m_tape_a, .int m_typed, .int m_place, .int m_isFault, .ref m_read_a, .ref m_heard_a, .ref m_undone_a, .int m_undos, .ref m_aside_a, .ref m_kept_a, .int m_keptUndos, .int m_isKept, .ref m_lanes_a, .ref m_sizes_a, .ref m_items_a, .ref m_moved_a]))]) (hS : va_S A H0 H locs)
    (hret : ∀ (H1 : Heap) (locs1 : List Loc) (ls1 : Array Slot) (pc1 : Nat), decode cX5_must pc1 = .ok (.return_, 1) → va_P D vwCl [(m_h, .inr (5, [.ref m_now_a, .ref m_tape_a, .int m_typed, .int w_m_place, .int w_m_isFault, .ref m_read_a, .ref m_heard_a, .ref m_undone_a, .int m_undos, .ref m_aside_a, .ref m_kept_a, .int m_keptUndos, .int m_isKept, .ref m_lanes_a, .ref m_sizes_a, .ref m_items_a, .ref m_moved_a]))] H1 → va_D A [(m_h, .inr (5, [.ref m_now_a, .ref m_tape_a, .int m_typed, .int w_m_place, .int w_m_isFault, .ref m_read_a, .ref m_heard_a, .ref m_undone_a, .int m_undos, .ref m_aside_a, .ref m_kept_a, .int m_keptUndos, .int m_isKept, .ref m_lanes_a, .ref m_sizes_a, .ref m_items_a, .ref m_moved_a]))] → va_S A H0 H1 locs1 → W p l e R s m args below meth c H1 locs1 cells slots Q (F0 m pc1 ls1 [])) : W p l e R s m args below meth c H locs cells slots Q (F0 m 0 ls []) := by
  have hf_120 := hts (.fieldLink RX5 120 "SealedLipsModel" "place" "I") (by decide +kernel)
  have hf_123 := hts (.fieldLink RX5 123 "SealedLipsModel" "isFault" "Z") (by decide +kernel)
  have hin_X5 : ∀ w ∈ wsX50, w ∈ wsX5_must := by decide +kernel
  unfold fnX5_must at hM
  refine lv_aload_n hx hb dX5_must_0 rfl (lv_at hl 0 rfl) ?_
  refine lv_aload_n hx hb dX5_must_1 rfl (lv_at hl 0 rfl) ?_
  refine va_get (D := D) (ci := 5) (v := .int m_isFault) (C := RX5) (T := TX5) (N := 17) hx hb hts hin_X5 hown hK hP 0 rfl rfl 4 (by decide) hf_123 (fun _ h9 => h9) rfl dX5_must_2 ?_
  obtain ⟨k_17, ek_17, hM⟩ := sx_lt_s hM
  have hk_17 : ∀ (y1 : Int32) (H : Heap) (locs : List Loc) (ls : Array Slot), k_17 y1 = some (w_m_place, w_m_isFault) → lv_has ls 2 [(0, .ref m_h)] → va_P D vwCl [(m_h, .inr (5, [.ref m_now_a, .ref m_tape_a, .int m_typed, .int m_place, .int m_isFault, .ref m_read_a, .ref m_heard_a, .ref m_undone_a, .int m_undos, .ref m_aside_a, .ref m_kept_a, .int m_keptUndos, .int m_isKept, .ref m_lanes_a, .ref m_sizes_a, .ref m_items_a, .ref m_moved_a]))] H → va_D A [(m_h, .inr (5, [.ref m_now_a, .ref m_tape_a, .int m_typed, .int m_place, .int m_isFault, .ref m_read_a, .ref m_heard_a, .ref m_undone_a, .int m_undos, .ref m_aside_a, .ref m_kept_a, .int m_keptUndos, .int m_isKept, .ref m_lanes_a, .ref m_sizes_a, .ref m_items_a, .ref m_moved_a]))] → va_S A H0 H locs → W p l e R s m args below meth c H locs cells slots Q (F0 m 17 ls (.int y1 :: .ref m_h :: [])) := by
    intro y1 H locs ls hM hl hP hD hS
    rw [ek_17] at hM
    obtain ⟨g2, hM⟩ := sx_gd_s hM
    refine va_put (D := D) (ci := 5) (v := .int y1) (ty := .boolean) (C := RX5) (T := TX5) (N := 17) hx hb hts hin_X5 tyX5 tyX5_ok nmX5 hown hK hP hD hS 0 rfl rfl 4 (by decide) hf_123 (fun _ h9 => h9) rfl (tyX5_ok 4 (by decide)) (sx_bl_s g2).1 (sx_bl_s g2).2 (Nat.le_of_ble_eq_true rfl) dX5_must_17 (fun H locs hP hD hS => ?_)
    have hP : va_P D vwCl [(m_h, .inr (5, [.ref m_now_a, .ref m_tape_a, .int m_typed, .int m_place, .int y1, .ref m_read_a, .ref m_heard_a, .ref m_undone_a, .int m_undos, .ref m_aside_a, .ref m_kept_a, .int m_keptUndos, .int m_isKept, .ref m_lanes_a, .ref m_sizes_a, .ref m_items_a, .ref m_moved_a]))] H := hP
    have hD : va_D A [(m_h, .inr (5, [.ref m_now_a, .ref m_tape_a, .int m_typed, .int m_place, .int y1, .ref m_read_a, .ref m_heard_a, .ref m_undone_a, .int m_undos, .ref m_aside_a, .ref m_kept_a, .int m_keptUndos, .int m_isKept, .ref m_lanes_a, .ref m_sizes_a, .ref m_items_a, .ref m_moved_a]))] := hD
    refine lv_aload_n hx hb dX5_must_20 rfl (lv_at hl 0 rfl) ?_
    refine lv_dup hx hb dX5_must_21 rfl ?_
    refine va_get (D := D) (ci := 5) (v := .int m_place) (C := RX5) (T := TX5) (N := 17) hx hb hts hin_X5 hown hK hP 0 rfl rfl 3 (by decide) hf_120 (fun _ h9 => h9) rfl dX5_must_22 ?_
    refine lv_aload_n hx hb dX5_must_25 rfl (lv_at hl 0 rfl) ?_
    refine va_get (D := D) (ci := 5) (v := .int y1) (C := RX5) (T := TX5) (N := 17) hx hb hts hin_X5 hown hK hP 0 rfl rfl 4 (by decide) hf_123 (fun _ h9 => h9) rfl dX5_must_26 ?_
    refine lv_if_eq (tgt := 36) hx hb dX5_must_29 (by decide) (fun c3 => ?_) (fun c3 => ?_)
    · replace hM := sx_ift c3 hM
      refine lv_iconst (v := 1) hx hb dX5_must_36 (by decide) ?_
      refine lv_iadd hx hb dX5_must_37 ?_
      refine va_put (D := D) (ci := 5) (v := .int (m_place + (1 : Int32))) (ty := .int) (C := RX5) (T := TX5) (N := 17) hx hb hts hin_X5 tyX5 tyX5_ok nmX5 hown hK hP hD hS 0 rfl rfl 3 (by decide) hf_120 (fun _ h9 => h9) rfl (tyX5_ok 3 (by decide)) rfl rfl (Nat.le_of_ble_eq_true rfl) dX5_must_38 (fun H locs hP hD hS => ?_)
      have hP : va_P D vwCl [(m_h, .inr (5, [.ref m_now_a, .ref m_tape_a, .int m_typed, .int (m_place + (1 : Int32)), .int y1, .ref m_read_a, .ref m_heard_a, .ref m_undone_a, .int m_undos, .ref m_aside_a, .ref m_kept_a, .int m_keptUndos, .int m_isKept, .ref m_lanes_a, .ref m_sizes_a, .ref m_items_a, .ref m_moved_a]))] H := hP
      have hD : va_D A [(m_h, .inr (5, [.ref m_now_a, .ref m_tape_a, .int m_typed, .int (m_place + (1 : Int32)), .int y1, .ref m_read_a, .ref m_heard_a, .ref m_undone_a, .int m_undos, .ref m_aside_a, .ref m_kept_a, .int m_keptUndos, .int m_isKept, .ref m_lanes_a, .ref m_sizes_a, .ref m_items_a, .ref m_moved_a]))] := hD
      obtain ⟨rfl, rfl⟩ := sx_o2 hM
      exact hret _ _ _ _ dX5_must_41 (hP.sub [0] rfl) (hD.sub [0] (by decide) rfl) hS
    · replace hM := sx_iff c3 hM
      refine lv_iconst (v := 0) hx hb dX5_must_32 (by decide) ?_
      refine lv_goto (tgt := 37) hx hb dX5_must_33 (by decide) ?_
      refine lv_iadd hx hb dX5_must_37 ?_
      refine va_put (D := D) (ci := 5) (v := .int (m_place + (0 : Int32))) (ty := .int) (C := RX5) (T := TX5) (N := 17) hx hb hts hin_X5 tyX5 tyX5_ok nmX5 hown hK hP hD hS 0 rfl rfl 3 (by decide) hf_120 (fun _ h9 => h9) rfl (tyX5_ok 3 (by decide)) rfl rfl (Nat.le_of_ble_eq_true rfl) dX5_must_38 (fun H locs hP hD hS => ?_)
      have hP : va_P D vwCl [(m_h, .inr (5, [.ref m_now_a, .ref m_tape_a, .int m_typed, .int (m_place + (0 : Int32)), .int y1, .ref m_read_a, .ref m_heard_a, .ref m_undone_a, .int m_undos, .ref m_aside_a, .ref m_kept_a, .int m_keptUndos, .int m_isKept, .ref m_lanes_a, .ref m_sizes_a, .ref m_items_a, .ref m_moved_a]))] H := hP
      have hD : va_D A [(m_h, .inr (5, [.ref m_now_a, .ref m_tape_a, .int m_typed, .int (m_place + (0 : Int32)), .int y1, .ref m_read_a, .ref m_heard_a, .ref m_undone_a, .int m_undos, .ref m_aside_a, .ref m_kept_a, .int m_keptUndos, .int m_isKept, .ref m_lanes_a, .ref m_sizes_a, .ref m_items_a, .ref m_moved_a]))] := hD
      obtain ⟨rfl, rfl⟩ := sx_o2 hM
      exact hret _ _ _ _ dX5_must_41 (hP.sub [0] rfl) (hD.sub [0] (by decide) rfl) hS
  refine lv_if_ne (tgt := 12) hx hb dX5_must_5 (by decide) (fun c4 => ?_) (fun c4 => ?_)
  · replace hM := sx_iff c4 hM
    refine lv_iconst (v := 1) hx hb dX5_must_12 (by decide) ?_
    refine lv_goto (tgt := 17) hx hb dX5_must_13 (by decide) ?_
    exact hk_17 (1 : Int32) _ _ _ hM (lv_sub hl [0] rfl) (hP.sub [0] rfl) (hD.sub [0] (by decide) rfl) hS
  · replace hM := sx_ift c4 hM
    refine lv_iload_n hx hb dX5_must_8 rfl (lv_at hl 1 rfl) ?_
    refine lv_if_ne (tgt := 16) hx hb dX5_must_9 (by decide) (fun c5 => ?_) (fun c5 => ?_)
    · replace hM := sx_iff c5 hM
      refine lv_iconst (v := 0) hx hb dX5_must_16 (by decide) ?_
      exact hk_17 (0 : Int32) _ _ _ hM (lv_sub hl [0] rfl) (hP.sub [0] rfl) (hD.sub [0] (by decide) rfl) hS
    · replace hM := sx_ift c5 hM
      refine lv_iconst (v := 1) hx hb dX5_must_12 (by decide) ?_
      refine lv_goto (tgt := 17) hx hb dX5_must_13 (by decide) ?_
      exact hk_17 (1 : Int32) _ _ _ hM (lv_sub hl [0] rfl) (hP.sub [0] rfl) (hD.sub [0] (by decide) rfl) hS
set_option maxHeartbeats 4000000 in
set_option maxRecDepth 100000 in
theorem mtX5_must (l : Launch) (D : va_G) (cI cJ cS : ClassId) (sz : Nat) (m_h m_now_a m_tape_a m_read_a m_heard_a m_undone_a m_aside_a m_kept_a m_lanes_a m_sizes_a m_items_a m_moved_a : Nat) (m_typed : Int32) (m_place : Int32) (m_isFault : Int32) (m_undos : Int32) (m_keptUndos : Int32) (m_isKept : Int32) (a1 : Int32) (F : Nat) (w_m_place : Int32) (w_m_isFault : Int32) (hM : fnX5_must F m_place m_isFault a1 = some (w_m_place, w_m_isFault)) : sx_MV l yX5_must wsX5_must ({ frames := 0, cells := 0, slots := 0, locals := 0 }) D (sx_T cI cJ cS) sz [.ref m_h, .int a1] [(m_h, .inr (5, [.ref m_now_a, .ref m_tape_a, .int m_typed, .int m_place, .int m_isFault, .ref m_read_a, .ref m_heard_a, .ref m_undone_a, .int m_undos, .ref m_aside_a, .ref m_kept_a, .int m_keptUndos, .int m_isKept, .ref m_lanes_a, .ref m_sizes_a, .ref m_items_a, .ref m_moved_a]))] [(m_h, .inr (5, [.ref m_now_a, .ref m_tape_a, .int m_typed, .int w_m_place, .int w_m_isFault, .ref m_read_a, .ref m_heard_a, .ref m_undone_a, .int m_undos, .ref m_aside_a, .ref m_kept_a, .int m_keptUndos, .int m_isKept, .ref m_lanes_a, .ref m_sizes_a, .ref m_items_a, .ref m_moved_a]))] := by
  refine Met.ofW (cc := cX5_must) (maxL := 2) (ret := none) (by decide) rfl ?_
  intro p e s m args below meth c s₁ B hml hv
  obtain ⟨rfl, hsz, hN, hP, hK, hD0⟩ := hv
  subst hsz
  have hl := lv_entry ([.ref m_h, .int a1]) (n := 2) (Nat.le_of_ble_eq_true rfl)
  rw [lg_entry_eq]
  generalize (lg_sl ([.ref m_h, .int a1]) ++ List.replicate (2 - (lg_sl ([.ref m_h, .int a1])).length) Slot.unset).toArray = ls at hl ⊢
  exact kwX5_must B.exec B.bytes hml (findClass_of_methodNamed B.named) (atoms_spec (ws := wsX5_must) B.pre) hN hK (fun q h => Or.inr h) (by decide) (by decide) ⟨Nat.zero_le _, Nat.zero_le _⟩ m_h m_now_a m_tape_a m_read_a m_heard_a m_undone_a m_aside_a m_kept_a m_lanes_a m_sizes_a m_items_a m_moved_a m_typed m_place m_isFault m_undos m_keptUndos m_isKept a1 F w_m_place w_m_isFault hM _ _ _ hl hP hD0.self va_S.rf (fun H1 locs1 ls1 pc1 hd hP hD hS => W.vret B.exec B.bytes B.returns (fun t ht hW => ⟨⟨(), rfl, trivial, by rw [ht]; exact hP, hD⟩, hS.F ht⟩) hS.2.2 hd)

def bdX5_number_57 (F : Nat) (x3_ : Int32) (x5_ : Int32) (m_tape : Nat → Int32) (m_typed : Int32) (m_isFault : Int32) (kf_141 : Int32 → Int32 → Option (Int32 × Int32 × Int32)) (r_ : Int32 → Int32 → Option (Int32 × Int32 × Int32)) (x6_ : Int32) (m_place : Int32) : Option (Int32 × Int32 × Int32) :=
  (if m_isFault = 0 then (if m_typed ≤ m_place then (kf_141 x6_ m_place) else (if x3_ ≤ (m_place - x5_) then (kf_141 x6_ m_place) else sx_gd (sx_ib m_place 70) (sx_c1 (fnX5_in F ((m_tape (m_place).toNatClampNeg)).toInt64 (48 : Int64) (57 : Int64)) (fun (r17 : Int32) => (if r17 = 0 then (kf_141 x6_ m_place) else sx_gd (sx_ib m_place 70) (sx_nm ((((10 : Int32) * x6_) + (m_tape (m_place).toNatClampNeg)) - (48 : Int32)) (fun (v21 : Int32) => (r_ v21 (m_place + (1 : Int32)))))))))) else (kf_141 x6_ m_place))
def fnX5_number (F : Nat) (m_tape : Nat → Int32) (m_typed : Int32) (m_place : Int32) (m_isFault : Int32) (a1 : Int32) (a2 : Int32) (a3 : Int32) : Option (Int32 × Int32 × Int32) :=
  sx_lt (fun (y1 : Int32) (z2 : Int32) => sx_lt (fun (y3 : Int32) => sx_gd (sx_bl y3) (sx_lt (fun (x5 : Int32) (z6 : Int32) => (if y3 = 0 then sx_c1 (fnX5_in F (x5).toInt64 (a1).toInt64 (a2).toInt64) (fun (r8 : Int32) => (if r8 = 0 then (some (x5, z2, (1 : Int32))) else (some (x5, z6, y3)))) else (some (x5, z6, y3)))) (fun (k_141 : Int32 → Int32 → Option (Int32 × Int32 × Int32)) => sx_lp2 (bdX5_number_57 F a3 z2 m_tape m_typed y3 k_141) F (0 : Int32) z2))) (fun (k_54 : Int32 → Option (Int32 × Int32 × Int32)) => (if m_isFault = 0 then sx_c1 (fnX5_in F (y1).toInt64 (48 : Int64) (57 : Int64)) (fun (r23 : Int32) => (if r23 = 0 then (k_54 (1 : Int32)) else (k_54 (0 : Int32)))) else (k_54 (1 : Int32))))) (fun (k_15 : Int32 → Int32 → Option (Int32 × Int32 × Int32)) => (if m_isFault = 0 then sx_c2 (fnX5_here F m_tape m_typed m_place) (fun (r27 : Int32) (w28 : Int32) => (k_15 r27 w28)) else (k_15 (0 : Int32) m_place)))
set_option maxHeartbeats 4000000 in
set_option maxRecDepth 100000 in
theorem kwX5_number {p : Program} {l : Launch} {e : Env} {R : Room} {s : State} {m : MethodId} {args : Array Value} {below : List Frame} {meth : Method} {c : Code} {cells slots : Nat} {Q : State → Prop} {A : Nat → Prop} {H0 : Heap} {D : va_G} {cI cJ cS : ClassId} (hx : p.tables.exec = Jvm.exec) (hb : c.code = cX5_number) (hml : c.maxLocals = 7) (hown : s.vm.findClass RX5 = some m.cls) (hts : ∀ w ∈ wsX5_number, w.before args s = true) (hN : sx_N s) (hK : va_K D vwCl (sx_T cI cJ cS) s) (hA : ∀ q, H0.size ≤ q → A q) (hRf : 1 ≤ R.frames) (hRl : 25 ≤ R.locals) (hRc : cells ≤ R.cells ∧ slots ≤ R.slots) (m_h m_now_a m_tape_a m_read_a m_heard_a m_undone_a m_aside_a m_kept_a m_lanes_a m_sizes_a m_items_a m_moved_a : Nat) (m_tape : Nat → Int32) (m_typed : Int32) (m_place : Int32) (m_isFault : Int32) (m_undos : Int32) (m_keptUndos : Int32) (m_isKept : Int32) (a1 : Int32) (a2 : Int32) (a3 : Int32) (F : Nat) (r0 : Int32) (w_m_place : Int32) (w_m_isFault : Int32) (hM : fnX5_number F m_tape m_typed m_place m_isFault a1 a2 a3 = some (r0, w_m_place, w_m_isFault)) (H : Heap) (locs : List Loc) (ls : Array Slot) (hl : lv_has ls 7 [(0, .ref m_h), (1, .int a1), (2, .int a2), (3, .int a3)]) (hP : va_P D vwCl [(m_h, .inr (5, [.ref m_now_a, .ref m_tape_a, .int m_typed, .int m_place, .int m_isFault, .ref m_read_a, .ref m_heard_a, .ref m_undone_a, .int m_undos, .ref m_aside_a, .ref m_kept_a, .int m_keptUndos, .int m_isKept, .ref m_lanes_a, .ref m_sizes_a, .ref m_items_a, .ref m_moved_a])), (m_tape_a, .inl (cI, 70, .inl m_tape))] H) (hD : va_D A [(m_h, .inr (5, [.ref m_now_a, .ref m_tape_a, .int m_typed, .int m_place, .int m_isFault, .ref m_read_a, .ref m_heard_a, .ref m_undone_a, .int m_undos, .ref m_aside_a, .ref m_kept_a, .int m_keptUndos, .int m_isKept, .ref m_lanes_a, .ref m_sizes_a, .ref m_items_a, .ref m_moved_a])), (m_tape_a, .inl (cI, 70, .inl m_tape))]) (hS : va_S A H0 H locs)
    (hret : ∀ (H1 : Heap) (locs1 : List Loc) (ls1 : Array Slot) (pc1 : Nat), decode cX5_number pc1 = .ok (.ireturn, 1) → va_P D vwCl [(m_h, .inr (5, [.ref m_now_a, .ref m_tape_a, .int m_typed, .int w_m_place, .int w_m_isFault, .ref m_read_a, .ref m_heard_a, .ref m_undone_a, .int m_undos, .ref m_aside_a, .ref m_kept_a, .int m_keptUndos, .int m_isKept, .ref m_lanes_a, .ref m_sizes_a, .ref m_items_a, .ref m_moved_a])), (m_tape_a, .inl (cI, 70, .inl m_tape))] H1 → va_D A [(m_h, .inr (5, [.ref m_now_a, .ref m_tape_a, .int m_typed, .int w_m_place, .int w_m_isFault, .ref m_read_a, .ref m_heard_a, .ref m_undone_a, .int m_undos, .ref m_aside_a, .ref m_kept_a, .int m_keptUndos, .int m_isKept, .ref m_lanes_a, .ref m_sizes_a, .ref m_items_a, .ref m_moved_a])), (m_tape_a, .inl (cI, 70, .inl m_tape))] → va_S A H0 H1 locs1 → W p l e R s m args below meth c H1 locs1 cells slots Q (F0 m pc1 ls1 [.int r0])) : W p l e R s m args below meth c H locs cells slots Q (F0 m 0 ls []) := by
  have hf_13 := hts (.fieldLink RX5 13 "SealedLipsModel" "tape" "[I") (by decide +kernel)
  have hf_117 := hts (.fieldLink RX5 117 "SealedLipsModel" "typed" "I") (by decide +kernel)
  have hf_120 := hts (.fieldLink RX5 120 "SealedLipsModel" "place" "I") (by decide +kernel)
  have hf_123 := hts (.fieldLink RX5 123 "SealedLipsModel" "isFault" "Z") (by decide +kernel)
  have hin_X5 : ∀ w ∈ wsX50, w ∈ wsX5_number := by decide +kernel
  unfold fnX5_number at hM
  refine lv_aload_n hx hb dX5_number_0 rfl (lv_at hl 0 rfl) ?_
  refine va_get (D := D) (ci := 5) (v := .int m_isFault) (C := RX5) (T := TX5) (N := 17) hx hb hts hin_X5 hown hK hP 0 rfl rfl 4 (by decide) hf_123 (fun _ h9 => h9) rfl dX5_number_1 ?_
  obtain ⟨k_15, ek_15, hM⟩ := sx_lt_s hM
  have hk_15 : ∀ (y1 : Int32) (z2 : Int32) (H : Heap) (locs : List Loc) (ls : Array Slot), k_15 y1 z2 = some (r0, w_m_place, w_m_isFault) → lv_has ls 7 [(0, .ref m_h), (1, .int a1), (2, .int a2), (3, .int a3)] → va_P D vwCl [(m_h, .inr (5, [.ref m_now_a, .ref m_tape_a, .int m_typed, .int z2, .int m_isFault, .ref m_read_a, .ref m_heard_a, .ref m_undone_a, .int m_undos, .ref m_aside_a, .ref m_kept_a, .int m_keptUndos, .int m_isKept, .ref m_lanes_a, .ref m_sizes_a, .ref m_items_a, .ref m_moved_a])), (m_tape_a, .inl (cI, 70, .inl m_tape))] H → va_D A [(m_h, .inr (5, [.ref m_now_a, .ref m_tape_a, .int m_typed, .int z2, .int m_isFault, .ref m_read_a, .ref m_heard_a, .ref m_undone_a, .int m_undos, .ref m_aside_a, .ref m_kept_a, .int m_keptUndos, .int m_isKept, .ref m_lanes_a, .ref m_sizes_a, .ref m_items_a, .ref m_moved_a])), (m_tape_a, .inl (cI, 70, .inl m_tape))] → va_S A H0 H locs → W p l e R s m args below meth c H locs cells slots Q (F0 m 15 ls (.int y1 :: [])) := by
    intro y1 z2 H locs ls hM hl hP hD hS
    rw [ek_15] at hM
    refine lv_istore (lv' := [(4, .int y1), (0, .ref m_h), (1, .int a1), (2, .int a2), (3, .int a3)]) hx hb dX5_number_15 hl (by decide) rfl (fun ls hl => ?_)
    refine lv_aload_n hx hb dX5_number_17 rfl (lv_at hl 1 rfl) ?_
    refine va_get (D := D) (ci := 5) (v := .int z2) (C := RX5) (T := TX5) (N := 17) hx hb hts hin_X5 hown hK hP 0 rfl rfl 3 (by decide) hf_120 (fun _ h9 => h9) rfl dX5_number_18 ?_
    refine lv_istore (lv' := [(5, .int z2), (4, .int y1), (0, .ref m_h), (1, .int a1), (2, .int a2), (3, .int a3)]) hx hb dX5_number_21 hl (by decide) rfl (fun ls hl => ?_)
    refine lv_iconst (v := 0) hx hb dX5_number_23 (by decide) ?_
    refine lv_istore (lv' := [(6, .int (0 : Int32)), (5, .int z2), (4, .int y1), (0, .ref m_h), (1, .int a1), (2, .int a2), (3, .int a3)]) hx hb dX5_number_24 hl (by decide) rfl (fun ls hl => ?_)
    refine lv_aload_n hx hb dX5_number_26 rfl (lv_at hl 3 rfl) ?_
    refine lv_aload_n hx hb dX5_number_27 rfl (lv_at hl 3 rfl) ?_
    refine va_get (D := D) (ci := 5) (v := .int m_isFault) (C := RX5) (T := TX5) (N := 17) hx hb hts hin_X5 hown hK hP 0 rfl rfl 4 (by decide) hf_123 (fun _ h9 => h9) rfl dX5_number_28 ?_
    obtain ⟨k_54, ek_54, hM⟩ := sx_lt_s hM
    have hk_54 : ∀ (y3 : Int32) (H : Heap) (locs : List Loc) (ls : Array Slot), k_54 y3 = some (r0, w_m_place, w_m_isFault) → lv_has ls 7 [(0, .ref m_h), (1, .int a1), (2, .int a2), (3, .int a3), (5, .int z2), (6, .int (0 : Int32))] → va_P D vwCl [(m_h, .inr (5, [.ref m_now_a, .ref m_tape_a, .int m_typed, .int z2, .int m_isFault, .ref m_read_a, .ref m_heard_a, .ref m_undone_a, .int m_undos, .ref m_aside_a, .ref m_kept_a, .int m_keptUndos, .int m_isKept, .ref m_lanes_a, .ref m_sizes_a, .ref m_items_a, .ref m_moved_a])), (m_tape_a, .inl (cI, 70, .inl m_tape))] H → va_D A [(m_h, .inr (5, [.ref m_now_a, .ref m_tape_a, .int m_typed, .int z2, .int m_isFault, .ref m_read_a, .ref m_heard_a, .ref m_undone_a, .int m_undos, .ref m_aside_a, .ref m_kept_a, .int m_keptUndos, .int m_isKept, .ref m_lanes_a, .ref m_sizes_a, .ref m_items_a, .ref m_moved_a])), (m_tape_a, .inl (cI, 70, .inl m_tape))] → va_S A H0 H locs → W p l e R s m args below meth c H locs cells slots Q (F0 m 54 ls (.int y3 :: .ref m_h :: [])) := by
      intro y3 H locs ls hM hl hP hD hS
      rw [ek_54] at hM
      obtain ⟨g4, hM⟩ := sx_gd_s hM
      refine va_put (D := D) (ci := 5) (v := .int y3) (ty := .boolean) (C := RX5) (T := TX5) (N := 17) hx hb hts hin_X5 tyX5 tyX5_ok nmX5 hown hK hP hD hS 0 rfl rfl 4 (by decide) hf_123 (fun _ h9 => h9) rfl (tyX5_ok 4 (by decide)) (sx_bl_s g4).1 (sx_bl_s g4).2 (Nat.le_of_ble_eq_true rfl) dX5_number_54 (fun H locs hP hD hS => ?_)
      have hP : va_P D vwCl [(m_h, .inr (5, [.ref m_now_a, .ref m_tape_a, .int m_typed, .int z2, .int y3, .ref m_read_a, .ref m_heard_a, .ref m_undone_a, .int m_undos, .ref m_aside_a, .ref m_kept_a, .int m_keptUndos, .int m_isKept, .ref m_lanes_a, .ref m_sizes_a, .ref m_items_a, .ref m_moved_a])), (m_tape_a, .inl (cI, 70, .inl m_tape))] H := hP
      have hD : va_D A [(m_h, .inr (5, [.ref m_now_a, .ref m_tape_a, .int m_typed, .int z2, .int y3, .ref m_read_a, .ref m_heard_a, .ref m_undone_a, .int m_undos, .ref m_aside_a, .ref m_kept_a, .int m_keptUndos, .int m_isKept, .ref m_lanes_a, .ref m_sizes_a, .ref m_items_a, .ref m_moved_a])), (m_tape_a, .inl (cI, 70, .inl m_tape))] := hD
      obtain ⟨k_141, ek_141, hM⟩ := sx_lt_s hM
      have hk_141 : ∀ (x5 : Int32) (z6 : Int32) (H : Heap) (locs : List Loc) (ls : Array Slot), k_141 x5 z6 = some (r0, w_m_place, w_m_isFault) → lv_has ls 7 [(0, .ref m_h), (1, .int a1), (2, .int a2), (5, .int z2), (6, .int x5)] → va_P D vwCl [(m_h, .inr (5, [.ref m_now_a, .ref m_tape_a, .int m_typed, .int z6, .int y3, .ref m_read_a, .ref m_heard_a, .ref m_undone_a, .int m_undos, .ref m_aside_a, .ref m_kept_a, .int m_keptUndos, .int m_isKept, .ref m_lanes_a, .ref m_sizes_a, .ref m_items_a, .ref m_moved_a])), (m_tape_a, .inl (cI, 70, .inl m_tape))] H → va_D A [(m_h, .inr (5, [.ref m_now_a, .ref m_tape_a, .int m_typed, .int z6, .int y3, .ref m_read_a, .ref m_heard_a, .ref m_undone_a, .int m_undos, .ref m_aside_a, .ref m_kept_a, .int m_keptUndos, .int m_isKept, .ref m_lanes_a, .ref m_sizes_a, .ref m_items_a, .ref m_moved_a])), (m_tape_a, .inl (cI, 70, .inl m_tape))] → va_S A H0 H locs → W p l e R s m args below meth c H locs cells slots Q (F0 m 141 ls ([])) := by
        intro x5 z6 H locs ls hM hl hP hD hS
        rw [ek_141] at hM
        refine lv_aload_n hx hb dX5_number_141 rfl (lv_at hl 0 rfl) ?_
        refine va_get (D := D) (ci := 5) (v := .int y3) (C := RX5) (T := TX5) (N := 17) hx hb hts hin_X5 hown hK hP 0 rfl rfl 4 (by decide) hf_123 (fun _ h9 => h9) rfl dX5_number_142 ?_
        refine lv_if_ne (tgt := 172) hx hb dX5_number_145 (by decide) (fun c7 => ?_) (fun c7 => ?_)
        · replace hM := sx_iff c7 hM
          refine lv_iload hx hb dX5_number_172 (lv_at hl 4 rfl) ?_
          obtain ⟨rfl, rfl, rfl⟩ := sx_o3 hM
          exact hret _ _ _ _ dX5_number_174 (hP.sub [0, 1] rfl) (hD.sub [0, 1] (by decide) rfl) hS
        · replace hM := sx_ift c7 hM
          refine lv_iload hx hb dX5_number_148 (lv_at hl 4 rfl) ?_
          refine lv_i2l hx hb dX5_number_150 rfl ?_
          refine lv_iload_n hx hb dX5_number_151 rfl (lv_at hl 1 rfl) ?_
          refine lv_i2l hx hb dX5_number_152 rfl ?_
          refine lv_iload_n hx hb dX5_number_153 rfl (lv_at hl 2 rfl) ?_
          refine lv_i2l hx hb dX5_number_154 rfl ?_
          obtain ⟨r8, hc9, hM⟩ := sx_c1_s hM
          refine sx_iS (As := [.long (x5).toInt64, .long (a1).toInt64, .long (a2).toInt64]) (rest := []) (wc := []) (wr := [(m_h, .inr (5, [.ref m_now_a, .ref m_tape_a, .int m_typed, .int z6, .int y3, .ref m_read_a, .ref m_heard_a, .ref m_undone_a, .int m_undos, .ref m_aside_a, .ref m_kept_a, .int m_keptUndos, .int m_isKept, .ref m_lanes_a, .ref m_sizes_a, .ref m_items_a, .ref m_moved_a])), (m_tape_a, .inl (cI, 70, .inl m_tape))]) (w1 := []) ⟨hx, hb, hml, hown, hts⟩ (mtX5_in l D cI cJ cS H.size (x5).toInt64 (a1).toInt64 (a2).toInt64 F r8 hc9) (va_cwS 3 hts gX5_number_X5_in rfl rfl rfl (by decide +kernel) ⟨Nat.le_trans (by decide) hRf, Nat.le_trans (by decide) hRl⟩) hK hN hP hD hS hA [] [0, 1] rfl (by decide) rfl (by decide) (by decide) rfl hl.1 rfl (Nat.le_of_ble_eq_true rfl) dX5_number_155 hRc (fun H locs hP hD hS => ?_)
          have hP : va_P D vwCl [(m_h, .inr (5, [.ref m_now_a, .ref m_tape_a, .int m_typed, .int z6, .int y3, .ref m_read_a, .ref m_heard_a, .ref m_undone_a, .int m_undos, .ref m_aside_a, .ref m_kept_a, .int m_keptUndos, .int m_isKept, .ref m_lanes_a, .ref m_sizes_a, .ref m_items_a, .ref m_moved_a])), (m_tape_a, .inl (cI, 70, .inl m_tape))] H := hP
          have hD : va_D A [(m_h, .inr (5, [.ref m_now_a, .ref m_tape_a, .int m_typed, .int z6, .int y3, .ref m_read_a, .ref m_heard_a, .ref m_undone_a, .int m_undos, .ref m_aside_a, .ref m_kept_a, .int m_keptUndos, .int m_isKept, .ref m_lanes_a, .ref m_sizes_a, .ref m_items_a, .ref m_moved_a])), (m_tape_a, .inl (cI, 70, .inl m_tape))] := hD
          refine lv_if_ne (tgt := 172) hx hb dX5_number_158 (by decide) (fun c10 => ?_) (fun c10 => ?_)
          · replace hM := sx_iff c10 hM
            refine lv_iload hx hb dX5_number_172 (lv_at hl 4 rfl) ?_
            obtain ⟨rfl, rfl, rfl⟩ := sx_o3 hM
            exact hret _ _ _ _ dX5_number_174 (hP.sub [0, 1] rfl) (hD.sub [0, 1] (by decide) rfl) hS
          · replace hM := sx_ift c10 hM
            refine lv_aload_n hx hb dX5_number_161 rfl (lv_at hl 0 rfl) ?_
            refine lv_iconst (v := 1) hx hb dX5_number_162 (by decide) ?_
            refine va_put (D := D) (ci := 5) (v := .int (1 : Int32)) (ty := .boolean) (C := RX5) (T := TX5) (N := 17) hx hb hts hin_X5 tyX5 tyX5_ok nmX5 hown hK hP hD hS 0 rfl rfl 4 (by decide) hf_123 (fun _ h9 => h9) rfl (tyX5_ok 4 (by decide)) rfl rfl (Nat.le_of_ble_eq_true rfl) dX5_number_163 (fun H locs hP hD hS => ?_)
            have hP : va_P D vwCl [(m_h, .inr (5, [.ref m_now_a, .ref m_tape_a, .int m_typed, .int z6, .int (1 : Int32), .ref m_read_a, .ref m_heard_a, .ref m_undone_a, .int m_undos, .ref m_aside_a, .ref m_kept_a, .int m_keptUndos, .int m_isKept, .ref m_lanes_a, .ref m_sizes_a, .ref m_items_a, .ref m_moved_a])), (m_tape_a, .inl (cI, 70, .inl m_tape))] H := hP
            have hD : va_D A [(m_h, .inr (5, [.ref m_now_a, .ref m_tape_a, .int m_typed, .int z6, .int (1 : Int32), .ref m_read_a, .ref m_heard_a, .ref m_undone_a, .int m_undos, .ref m_aside_a, .ref m_kept_a, .int m_keptUndos, .int m_isKept, .ref m_lanes_a, .ref m_sizes_a, .ref m_items_a, .ref m_moved_a])), (m_tape_a, .inl (cI, 70, .inl m_tape))] := hD
            refine lv_aload_n hx hb dX5_number_166 rfl (lv_at hl 0 rfl) ?_
            refine lv_iload hx hb dX5_number_167 (lv_at hl 3 rfl) ?_
            refine va_put (D := D) (ci := 5) (v := .int z2) (ty := .int) (C := RX5) (T := TX5) (N := 17) hx hb hts hin_X5 tyX5 tyX5_ok nmX5 hown hK hP hD hS 0 rfl rfl 3 (by decide) hf_120 (fun _ h9 => h9) rfl (tyX5_ok 3 (by decide)) rfl rfl (Nat.le_of_ble_eq_true rfl) dX5_number_169 (fun H locs hP hD hS => ?_)
            have hP : va_P D vwCl [(m_h, .inr (5, [.ref m_now_a, .ref m_tape_a, .int m_typed, .int z2, .int (1 : Int32), .ref m_read_a, .ref m_heard_a, .ref m_undone_a, .int m_undos, .ref m_aside_a, .ref m_kept_a, .int m_keptUndos, .int m_isKept, .ref m_lanes_a, .ref m_sizes_a, .ref m_items_a, .ref m_moved_a])), (m_tape_a, .inl (cI, 70, .inl m_tape))] H := hP
            have hD : va_D A [(m_h, .inr (5, [.ref m_now_a, .ref m_tape_a, .int m_typed, .int z2, .int (1 : Int32), .ref m_read_a, .ref m_heard_a, .ref m_undone_a, .int m_undos, .ref m_aside_a, .ref m_kept_a, .int m_keptUndos, .int m_isKept, .ref m_lanes_a, .ref m_sizes_a, .ref m_items_a, .ref m_moved_a])), (m_tape_a, .inl (cI, 70, .inl m_tape))] := hD
            refine lv_iload hx hb dX5_number_172 (lv_at hl 4 rfl) ?_
            obtain ⟨rfl, rfl, rfl⟩ := sx_o3 hM
            exact hret _ _ _ _ dX5_number_174 (hP.sub [0, 1] rfl) (hD.sub [0, 1] (by decide) rfl) hS
      have lp_57 : ∀ (n : Nat) (x11 : Int32) (z12 : Int32) (H : Heap) (locs : List Loc) (ls : Array Slot), sx_lp2 (bdX5_number_57 F a3 z2 m_tape m_typed y3 k_141) n x11 z12 = some (r0, w_m_place, w_m_isFault) → lv_has ls 7 [(0, .ref m_h), (1, .int a1), (2, .int a2), (3, .int a3), (5, .int z2), (6, .int x11)] → va_P D vwCl [(m_h, .inr (5, [.ref m_now_a, .ref m_tape_a, .int m_typed, .int z12, .int y3, .ref m_read_a, .ref m_heard_a, .ref m_undone_a, .int m_undos, .ref m_aside_a, .ref m_kept_a, .int m_keptUndos, .int m_isKept, .ref m_lanes_a, .ref m_sizes_a, .ref m_items_a, .ref m_moved_a])), (m_tape_a, .inl (cI, 70, .inl m_tape))] H → va_D A [(m_h, .inr (5, [.ref m_now_a, .ref m_tape_a, .int m_typed, .int z12, .int y3, .ref m_read_a, .ref m_heard_a, .ref m_undone_a, .int m_undos, .ref m_aside_a, .ref m_kept_a, .int m_keptUndos, .int m_isKept, .ref m_lanes_a, .ref m_sizes_a, .ref m_items_a, .ref m_moved_a])), (m_tape_a, .inl (cI, 70, .inl m_tape))] → va_S A H0 H locs → W p l e R s m args below meth c H locs cells slots Q (F0 m 57 ls ([])) := by
        intro n
        induction n with
        | zero => intro x11 z12 H locs ls hM; exact (sx_lp2_0 hM).elim
        | succ n ih =>
          intro x11 z12 H locs ls hM hl hP hD hS
          have hM : bdX5_number_57 F a3 z2 m_tape m_typed y3 k_141 (sx_lp2 (bdX5_number_57 F a3 z2 m_tape m_typed y3 k_141) n) x11 z12 = some (r0, w_m_place, w_m_isFault) := hM
          generalize sx_lp2 (bdX5_number_57 F a3 z2 m_tape m_typed y3 k_141) n = r_57 at hM ih
          unfold bdX5_number_57 at hM
          refine lv_aload_n hx hb dX5_number_57 rfl (lv_at hl 0 rfl) ?_
          refine va_get (D := D) (ci := 5) (v := .int y3) (C := RX5) (T := TX5) (N := 17) hx hb hts hin_X5 hown hK hP 0 rfl rfl 4 (by decide) hf_123 (fun _ h9 => h9) rfl dX5_number_58 ?_
          refine lv_if_ne (tgt := 141) hx hb dX5_number_61 (by decide) (fun c13 => ?_) (fun c13 => ?_)
          · replace hM := sx_iff c13 hM
            exact hk_141 x11 z12 _ _ _ hM (lv_sub hl [0, 1, 2, 4, 5] rfl) (hP.sub [0, 1] rfl) (hD.sub [0, 1] (by decide) rfl) hS
          · replace hM := sx_ift c13 hM
            refine lv_aload_n hx hb dX5_number_64 rfl (lv_at hl 0 rfl) ?_
            refine va_get (D := D) (ci := 5) (v := .int z12) (C := RX5) (T := TX5) (N := 17) hx hb hts hin_X5 hown hK hP 0 rfl rfl 3 (by decide) hf_120 (fun _ h9 => h9) rfl dX5_number_65 ?_
            refine lv_aload_n hx hb dX5_number_68 rfl (lv_at hl 0 rfl) ?_
            refine va_get (D := D) (ci := 5) (v := .int m_typed) (C := RX5) (T := TX5) (N := 17) hx hb hts hin_X5 hown hK hP 0 rfl rfl 2 (by decide) hf_117 (fun _ h9 => h9) rfl dX5_number_69 ?_
            refine lv_icmp_ge (tgt := 141) hx hb dX5_number_72 (by decide) (fun c14 => ?_) (fun c14 => ?_)
            · replace hM := sx_ift c14 hM
              exact hk_141 x11 z12 _ _ _ hM (lv_sub hl [0, 1, 2, 4, 5] rfl) (hP.sub [0, 1] rfl) (hD.sub [0, 1] (by decide) rfl) hS
            · replace hM := sx_iff c14 hM
              refine lv_aload_n hx hb dX5_number_75 rfl (lv_at hl 0 rfl) ?_
              refine va_get (D := D) (ci := 5) (v := .int z12) (C := RX5) (T := TX5) (N := 17) hx hb hts hin_X5 hown hK hP 0 rfl rfl 3 (by decide) hf_120 (fun _ h9 => h9) rfl dX5_number_76 ?_
              refine lv_iload hx hb dX5_number_79 (lv_at hl 4 rfl) ?_
              refine lv_isub hx hb dX5_number_81 ?_
              refine lv_iload_n hx hb dX5_number_82 rfl (lv_at hl 3 rfl) ?_
              refine lv_icmp_ge (tgt := 141) hx hb dX5_number_83 (by decide) (fun c15 => ?_) (fun c15 => ?_)
              · replace hM := sx_ift c15 hM
                exact hk_141 x11 z12 _ _ _ hM (lv_sub hl [0, 1, 2, 4, 5] rfl) (hP.sub [0, 1] rfl) (hD.sub [0, 1] (by decide) rfl) hS
              · replace hM := sx_iff c15 hM
                refine lv_aload_n hx hb dX5_number_86 rfl (lv_at hl 0 rfl) ?_
                refine va_get (D := D) (ci := 5) (v := .ref m_tape_a) (C := RX5) (T := TX5) (N := 17) hx hb hts hin_X5 hown hK hP 0 rfl rfl 1 (by decide) hf_13 (fun _ h9 => h9) rfl dX5_number_87 ?_
                refine lv_aload_n hx hb dX5_number_90 rfl (lv_at hl 0 rfl) ?_
                refine va_get (D := D) (ci := 5) (v := .int z12) (C := RX5) (T := TX5) (N := 17) hx hb hts hin_X5 hown hK hP 0 rfl rfl 3 (by decide) hf_120 (fun _ h9 => h9) rfl dX5_number_91 ?_
                obtain ⟨g16, hM⟩ := sx_gd_s hM
                refine va_iald hx hb hK hP 1 0 rfl rfl (sx_ib_s g16) dX5_number_94 ?_
                refine lv_i2l hx hb dX5_number_95 rfl ?_
                refine lv_ldc2 (v := 48) hx hb hown (hts (.constantLong RX5 130 (48)) (by decide +kernel)) dX5_number_96 ?_
                refine lv_ldc2 (v := 57) hx hb hown (hts (.constantLong RX5 132 (57)) (by decide +kernel)) dX5_number_99 ?_
                obtain ⟨r17, hc18, hM⟩ := sx_c1_s hM
                refine sx_iS (As := [.long ((m_tape (z12).toNatClampNeg)).toInt64, .long (48 : Int64), .long (57 : Int64)]) (rest := []) (wc := []) (wr := [(m_h, .inr (5, [.ref m_now_a, .ref m_tape_a, .int m_typed, .int z12, .int y3, .ref m_read_a, .ref m_heard_a, .ref m_undone_a, .int m_undos, .ref m_aside_a, .ref m_kept_a, .int m_keptUndos, .int m_isKept, .ref m_lanes_a, .ref m_sizes_a, .ref m_items_a, .ref m_moved_a])), (m_tape_a, .inl (cI, 70, .inl m_tape))]) (w1 := []) ⟨hx, hb, hml, hown, hts⟩ (mtX5_in l D cI cJ cS H.size ((m_tape (z12).toNatClampNeg)).toInt64 (48 : Int64) (57 : Int64) F r17 hc18) (va_cwS 3 hts gX5_number_X5_in rfl rfl rfl (by decide +kernel) ⟨Nat.le_trans (by decide) hRf, Nat.le_trans (by decide) hRl⟩) hK hN hP hD hS hA [] [0, 1] rfl (by decide) rfl (by decide) (by decide) rfl hl.1 rfl (Nat.le_of_ble_eq_true rfl) dX5_number_102 hRc (fun H locs hP hD hS => ?_)
                have hP : va_P D vwCl [(m_h, .inr (5, [.ref m_now_a, .ref m_tape_a, .int m_typed, .int z12, .int y3, .ref m_read_a, .ref m_heard_a, .ref m_undone_a, .int m_undos, .ref m_aside_a, .ref m_kept_a, .int m_keptUndos, .int m_isKept, .ref m_lanes_a, .ref m_sizes_a, .ref m_items_a, .ref m_moved_a])), (m_tape_a, .inl (cI, 70, .inl m_tape))] H := hP
                have hD : va_D A [(m_h, .inr (5, [.ref m_now_a, .ref m_tape_a, .int m_typed, .int z12, .int y3, .ref m_read_a, .ref m_heard_a, .ref m_undone_a, .int m_undos, .ref m_aside_a, .ref m_kept_a, .int m_keptUndos, .int m_isKept, .ref m_lanes_a, .ref m_sizes_a, .ref m_items_a, .ref m_moved_a])), (m_tape_a, .inl (cI, 70, .inl m_tape))] := hD
                refine lv_if_eq (tgt := 141) hx hb dX5_number_105 (by decide) (fun c19 => ?_) (fun c19 => ?_)
                · replace hM := sx_ift c19 hM
                  exact hk_141 x11 z12 _ _ _ hM (lv_sub hl [0, 1, 2, 4, 5] rfl) (hP.sub [0, 1] rfl) (hD.sub [0, 1] (by decide) rfl) hS
                · replace hM := sx_iff c19 hM
                  refine lv_bipush (v := 10) hx hb dX5_number_108 (by decide) ?_
                  refine lv_iload hx hb dX5_number_110 (lv_at hl 5 rfl) ?_
                  refine lv_imul hx hb dX5_number_112 ?_
                  refine lv_aload_n hx hb dX5_number_113 rfl (lv_at hl 0 rfl) ?_
                  refine va_get (D := D) (ci := 5) (v := .ref m_tape_a) (C := RX5) (T := TX5) (N := 17) hx hb hts hin_X5 hown hK hP 0 rfl rfl 1 (by decide) hf_13 (fun _ h9 => h9) rfl dX5_number_114 ?_
                  refine lv_aload_n hx hb dX5_number_117 rfl (lv_at hl 0 rfl) ?_
                  refine va_get (D := D) (ci := 5) (v := .int z12) (C := RX5) (T := TX5) (N := 17) hx hb hts hin_X5 hown hK hP 0 rfl rfl 3 (by decide) hf_120 (fun _ h9 => h9) rfl dX5_number_118 ?_
                  obtain ⟨g20, hM⟩ := sx_gd_s hM
                  refine va_iald hx hb hK hP 1 0 rfl rfl (sx_ib_s g20) dX5_number_121 ?_
                  refine lv_iadd hx hb dX5_number_122 ?_
                  refine lv_bipush (v := 48) hx hb dX5_number_123 (by decide) ?_
                  refine lv_isub hx hb dX5_number_125 ?_
                  obtain ⟨v21, ev21, hM⟩ := sx_nm_s hM
                  refine W.eq (g2 := F0 m 126 ls (.int v21 :: [])) (by subst ev21; rfl) ?_
                  refine lv_istore (lv' := [(6, .int v21), (0, .ref m_h), (1, .int a1), (2, .int a2), (3, .int a3), (5, .int z2)]) hx hb dX5_number_126 hl (by decide) rfl (fun ls hl => ?_)
                  refine lv_aload_n hx hb dX5_number_128 rfl (lv_at hl 1 rfl) ?_
                  refine lv_dup hx hb dX5_number_129 rfl ?_
                  refine va_get (D := D) (ci := 5) (v := .int z12) (C := RX5) (T := TX5) (N := 17) hx hb hts hin_X5 hown hK hP 0 rfl rfl 3 (by decide) hf_120 (fun _ h9 => h9) rfl dX5_number_130 ?_
                  refine lv_iconst (v := 1) hx hb dX5_number_133 (by decide) ?_
                  refine lv_iadd hx hb dX5_number_134 ?_
                  refine va_put (D := D) (ci := 5) (v := .int (z12 + (1 : Int32))) (ty := .int) (C := RX5) (T := TX5) (N := 17) hx hb hts hin_X5 tyX5 tyX5_ok nmX5 hown hK hP hD hS 0 rfl rfl 3 (by decide) hf_120 (fun _ h9 => h9) rfl (tyX5_ok 3 (by decide)) rfl rfl (Nat.le_of_ble_eq_true rfl) dX5_number_135 (fun H locs hP hD hS => ?_)
                  have hP : va_P D vwCl [(m_h, .inr (5, [.ref m_now_a, .ref m_tape_a, .int m_typed, .int (z12 + (1 : Int32)), .int y3, .ref m_read_a, .ref m_heard_a, .ref m_undone_a, .int m_undos, .ref m_aside_a, .ref m_kept_a, .int m_keptUndos, .int m_isKept, .ref m_lanes_a, .ref m_sizes_a, .ref m_items_a, .ref m_moved_a])), (m_tape_a, .inl (cI, 70, .inl m_tape))] H := hP
                  have hD : va_D A [(m_h, .inr (5, [.ref m_now_a, .ref m_tape_a, .int m_typed, .int (z12 + (1 : Int32)), .int y3, .ref m_read_a, .ref m_heard_a, .ref m_undone_a, .int m_undos, .ref m_aside_a, .ref m_kept_a, .int m_keptUndos, .int m_isKept, .ref m_lanes_a, .ref m_sizes_a, .ref m_items_a, .ref m_moved_a])), (m_tape_a, .inl (cI, 70, .inl m_tape))] := hD
                  refine lv_goto (tgt := 57) hx hb dX5_number_138 (by decide) ?_
                  exact ih v21 (z12 + (1 : Int32)) _ _ _ hM (lv_sub hl [1, 2, 3, 4, 5, 0] rfl) (hP.sub [0, 1] rfl) (hD.sub [0, 1] (by decide) rfl) hS
      exact lp_57 F (0 : Int32) z2 _ _ _ hM (lv_sub hl [0, 1, 2, 3, 4, 5] rfl) (hP.sub [0, 1] rfl) (hD.sub [0, 1] (by decide) rfl) hS
    refine lv_if_ne (tgt := 49) hx hb dX5_number_31 (by decide) (fun c22 => ?_) (fun c22 => ?_)
    · replace hM := sx_iff c22 hM
      refine lv_iconst (v := 1) hx hb dX5_number_49 (by decide) ?_
      refine lv_goto (tgt := 54) hx hb dX5_number_50 (by decide) ?_
      exact hk_54 (1 : Int32) _ _ _ hM (lv_sub hl [3, 4, 5, 6, 1, 0] rfl) (hP.sub [0, 1] rfl) (hD.sub [0, 1] (by decide) rfl) hS
    · replace hM := sx_ift c22 hM
      refine lv_iload hx hb dX5_number_34 (lv_at hl 2 rfl) ?_
      refine lv_i2l hx hb dX5_number_36 rfl ?_
      refine lv_ldc2 (v := 48) hx hb hown (hts (.constantLong RX5 130 (48)) (by decide +kernel)) dX5_number_37 ?_
      refine lv_ldc2 (v := 57) hx hb hown (hts (.constantLong RX5 132 (57)) (by decide +kernel)) dX5_number_40 ?_
      obtain ⟨r23, hc24, hM⟩ := sx_c1_s hM
      refine sx_iS (As := [.long (y1).toInt64, .long (48 : Int64), .long (57 : Int64)]) (rest := [.ref m_h]) (wc := []) (wr := [(m_h, .inr (5, [.ref m_now_a, .ref m_tape_a, .int m_typed, .int z2, .int m_isFault, .ref m_read_a, .ref m_heard_a, .ref m_undone_a, .int m_undos, .ref m_aside_a, .ref m_kept_a, .int m_keptUndos, .int m_isKept, .ref m_lanes_a, .ref m_sizes_a, .ref m_items_a, .ref m_moved_a])), (m_tape_a, .inl (cI, 70, .inl m_tape))]) (w1 := []) ⟨hx, hb, hml, hown, hts⟩ (mtX5_in l D cI cJ cS H.size (y1).toInt64 (48 : Int64) (57 : Int64) F r23 hc24) (va_cwS 3 hts gX5_number_X5_in rfl rfl rfl (by decide +kernel) ⟨Nat.le_trans (by decide) hRf, Nat.le_trans (by decide) hRl⟩) hK hN hP hD hS hA [] [0, 1] rfl (by decide) rfl (by decide) (by decide) rfl hl.1 rfl (Nat.le_of_ble_eq_true rfl) dX5_number_43 hRc (fun H locs hP hD hS => ?_)
      have hP : va_P D vwCl [(m_h, .inr (5, [.ref m_now_a, .ref m_tape_a, .int m_typed, .int z2, .int m_isFault, .ref m_read_a, .ref m_heard_a, .ref m_undone_a, .int m_undos, .ref m_aside_a, .ref m_kept_a, .int m_keptUndos, .int m_isKept, .ref m_lanes_a, .ref m_sizes_a, .ref m_items_a, .ref m_moved_a])), (m_tape_a, .inl (cI, 70, .inl m_tape))] H := hP
      have hD : va_D A [(m_h, .inr (5, [.ref m_now_a, .ref m_tape_a, .int m_typed, .int z2, .int m_isFault, .ref m_read_a, .ref m_heard_a, .ref m_undone_a, .int m_undos, .ref m_aside_a, .ref m_kept_a, .int m_keptUndos, .int m_isKept, .ref m_lanes_a, .ref m_sizes_a, .ref m_items_a, .ref m_moved_a])), (m_tape_a, .inl (cI, 70, .inl m_tape))] := hD
      refine lv_if_ne (tgt := 53) hx hb dX5_number_46 (by decide) (fun c25 => ?_) (fun c25 => ?_)
      · replace hM := sx_iff c25 hM
        refine lv_iconst (v := 0) hx hb dX5_number_53 (by decide) ?_
        exact hk_54 (0 : Int32) _ _ _ hM (lv_sub hl [3, 4, 5, 6, 1, 0] rfl) (hP.sub [0, 1] rfl) (hD.sub [0, 1] (by decide) rfl) hS
      · replace hM := sx_ift c25 hM
        refine lv_iconst (v := 1) hx hb dX5_number_49 (by decide) ?_
        refine lv_goto (tgt := 54) hx hb dX5_number_50 (by decide) ?_
        exact hk_54 (1 : Int32) _ _ _ hM (lv_sub hl [3, 4, 5, 6, 1, 0] rfl) (hP.sub [0, 1] rfl) (hD.sub [0, 1] (by decide) rfl) hS
  refine lv_if_eq (tgt := 11) hx hb dX5_number_4 (by decide) (fun c26 => ?_) (fun c26 => ?_)
  · replace hM := sx_ift c26 hM
    refine lv_aload_n hx hb dX5_number_11 rfl (lv_at hl 0 rfl) ?_
    obtain ⟨r27, w28, hc29, hM⟩ := sx_c2_s hM
    refine sx_iV (As := []) (rest := []) (wc := [(m_h, .inr (5, [.ref m_now_a, .ref m_tape_a, .int m_typed, .int m_place, .int m_isFault, .ref m_read_a, .ref m_heard_a, .ref m_undone_a, .int m_undos, .ref m_aside_a, .ref m_kept_a, .int m_keptUndos, .int m_isKept, .ref m_lanes_a, .ref m_sizes_a, .ref m_items_a, .ref m_moved_a])), (m_tape_a, .inl (cI, 70, .inl m_tape))]) (wr := []) (w1 := [(m_h, .inr (5, [.ref m_now_a, .ref m_tape_a, .int m_typed, .int w28, .int m_isFault, .ref m_read_a, .ref m_heard_a, .ref m_undone_a, .int m_undos, .ref m_aside_a, .ref m_kept_a, .int m_keptUndos, .int m_isKept, .ref m_lanes_a, .ref m_sizes_a, .ref m_items_a, .ref m_moved_a])), (m_tape_a, .inl (cI, 70, .inl m_tape))]) ⟨hx, hb, hml, hown, hts⟩ (mtX5_here l D cI cJ cS H.size m_h m_now_a m_tape_a m_read_a m_heard_a m_undone_a m_aside_a m_kept_a m_lanes_a m_sizes_a m_items_a m_moved_a m_tape m_typed m_place m_isFault m_undos m_keptUndos m_isKept F r27 w28 hc29) (cwV 0 hts gX5_number_X5_here rfl rfl rfl (by decide +kernel) ⟨Nat.le_trans (by decide) hRf, Nat.le_trans (by decide) hRl⟩) hK hN hP hD hS hA [0, 1] [] rfl (by decide) rfl (by decide) (by decide) rfl rfl rfl rfl hl.1 rfl (Nat.le_of_ble_eq_true rfl) dX5_number_12 hRc (fun H locs hP hD hS => ?_)
    have hP : va_P D vwCl [(m_h, .inr (5, [.ref m_now_a, .ref m_tape_a, .int m_typed, .int w28, .int m_isFault, .ref m_read_a, .ref m_heard_a, .ref m_undone_a, .int m_undos, .ref m_aside_a, .ref m_kept_a, .int m_keptUndos, .int m_isKept, .ref m_lanes_a, .ref m_sizes_a, .ref m_items_a, .ref m_moved_a])), (m_tape_a, .inl (cI, 70, .inl m_tape))] H := hP
    have hD : va_D A [(m_h, .inr (5, [.ref m_now_a, .ref m_tape_a, .int m_typed, .int w28, .int m_isFault, .ref m_read_a, .ref m_heard_a, .ref m_undone_a, .int m_undos, .ref m_aside_a, .ref m_kept_a, .int m_keptUndos, .int m_isKept, .ref m_lanes_a, .ref m_sizes_a, .ref m_items_a, .ref m_moved_a])), (m_tape_a, .inl (cI, 70, .inl m_tape))] := hD
    exact hk_15 r27 w28 _ _ _ hM (lv_sub hl [0, 1, 2, 3] rfl) (hP.sub [0, 1] rfl) (hD.sub [0, 1] (by decide) rfl) hS
  · replace hM := sx_iff c26 hM
    refine lv_iconst (v := 0) hx hb dX5_number_7 (by decide) ?_
    refine lv_goto (tgt := 15) hx hb dX5_number_8 (by decide) ?_
    exact hk_15 (0 : Int32) m_place _ _ _ hM (lv_sub hl [0, 1, 2, 3] rfl) (hP.sub [0, 1] rfl) (hD.sub [0, 1] (by decide) rfl) hS
set_option maxHeartbeats 4000000 in
set_option maxRecDepth 100000 in
theorem mtX5_number (l : Launch) (D : va_G) (cI cJ cS : ClassId) (sz : Nat) (m_h m_now_a m_tape_a m_read_a m_heard_a m_undone_a m_aside_a m_kept_a m_lanes_a m_sizes_a m_items_a m_moved_a : Nat) (m_tape : Nat → Int32) (m_typed : Int32) (m_place : Int32) (m_isFault : Int32) (m_undos : Int32) (m_keptUndos : Int32) (m_isKept : Int32) (a1 : Int32) (a2 : Int32) (a3 : Int32) (F : Nat) (r0 : Int32) (w_m_place : Int32) (w_m_isFault : Int32) (hM : fnX5_number F m_tape m_typed m_place m_isFault a1 a2 a3 = some (r0, w_m_place, w_m_isFault)) : sx_MI l yX5_number wsX5_number ({ frames := 1, cells := 0, slots := 0, locals := 25 }) D (sx_T cI cJ cS) sz [.ref m_h, .int a1, .int a2, .int a3] [(m_h, .inr (5, [.ref m_now_a, .ref m_tape_a, .int m_typed, .int m_place, .int m_isFault, .ref m_read_a, .ref m_heard_a, .ref m_undone_a, .int m_undos, .ref m_aside_a, .ref m_kept_a, .int m_keptUndos, .int m_isKept, .ref m_lanes_a, .ref m_sizes_a, .ref m_items_a, .ref m_moved_a])), (m_tape_a, .inl (cI, 70, .inl m_tape))] r0 [(m_h, .inr (5, [.ref m_now_a, .ref m_tape_a, .int m_typed, .int w_m_place, .int w_m_isFault, .ref m_read_a, .ref m_heard_a, .ref m_undone_a, .int m_undos, .ref m_aside_a, .ref m_kept_a, .int m_keptUndos, .int m_isKept, .ref m_lanes_a, .ref m_sizes_a, .ref m_items_a, .ref m_moved_a])), (m_tape_a, .inl (cI, 70, .inl m_tape))] := by
  refine Met.ofW (cc := cX5_number) (maxL := 7) (ret := (some .int)) (by decide) rfl ?_
  intro p e s m args below meth c s₁ B hml hv
  obtain ⟨rfl, hsz, hN, hP, hK, hD0⟩ := hv
  subst hsz
  have hl := lv_entry ([.ref m_h, .int a1, .int a2, .int a3]) (n := 7) (Nat.le_of_ble_eq_true rfl)
  rw [lg_entry_eq]
  generalize (lg_sl ([.ref m_h, .int a1, .int a2, .int a3]) ++ List.replicate (7 - (lg_sl ([.ref m_h, .int a1, .int a2, .int a3])).length) Slot.unset).toArray = ls at hl ⊢
  exact kwX5_number B.exec B.bytes hml (findClass_of_methodNamed B.named) (atoms_spec (ws := wsX5_number) B.pre) hN hK (fun q h => Or.inr h) (by decide) (by decide) ⟨Nat.zero_le _, Nat.zero_le _⟩ m_h m_now_a m_tape_a m_read_a m_heard_a m_undone_a m_aside_a m_kept_a m_lanes_a m_sizes_a m_items_a m_moved_a m_tape m_typed m_place m_isFault m_undos m_keptUndos m_isKept a1 a2 a3 F r0 w_m_place w_m_isFault hM _ _ _ hl hP hD0.self va_S.rf (fun H1 locs1 ls1 pc1 hd hP hD hS => W.iret (v := r0) B.exec B.bytes B.returns (fun t ht hW => ⟨⟨r0, (), rfl, rfl, by rw [ht]; exact hP, hD⟩, hS.F ht⟩) hS.2.2 hd)

def bdX5_readPersons_145 (F : Nat) (m_tape : Nat → Int32) (m_typed : Int32) (kf_193 : Int32 → Int32 → Option (Int32 × Int32 × Int32 × (Nat → Int32))) (r_ : Int32 → Int32 → Int32 → Option (Int32 × Int32 × Int32 × (Nat → Int32))) (x4_ : Int32) (x5_ : Int32) (m_place : Int32) : Option (Int32 × Int32 × Int32 × (Nat → Int32)) :=
  sx_c1 (fnX5_isThing F x5_) (fun (r28 : Int32) => (if r28 = 0 then (kf_193 x4_ m_place) else (if ((1 : Int32) <<< (x5_ &&& 31)) ≤ x4_ then (kf_193 x4_ m_place) else sx_nm (x4_ ||| ((1 : Int32) <<< (x5_ &&& 31))) (fun (v32 : Int32) => sx_c2 (fnX5_here F m_tape m_typed (m_place + (1 : Int32))) (fun (r33 : Int32) (w34 : Int32) => sx_nm (r33 - (48 : Int32)) (fun (v36 : Int32) => (r_ v32 v36 w34)))))))
def bdX5_readPersons_2 (F : Nat) (m_tape : Nat → Int32) (m_typed : Int32) (r_ : Int32 → Int32 → Int32 → (Nat → Int32) → Option (Int32 × Int32 × Int32 × (Nat → Int32))) (x1_ : Int32) (m_place : Int32) (m_isFault : Int32) (m_read : Nat → Int32) : Option (Int32 × Int32 × Int32 × (Nat → Int32)) :=
  (if m_isFault = 0 then sx_lt (fun (z6 : Int32) => sx_lt (fun (z7 : Int32) (z8 : Int32) => sx_lt (fun (y9 : Int32) (z10 : Int32) => sx_lt (fun (y11 : Int32) => sx_lt (fun (y12 : Int32) => sx_c2 (fnX5_must F z10 z8 y12) (fun (w13 : Int32) (w14 : Int32) => sx_lt (fun (y16 : Int32) (z17 : Int32) => sx_lt (fun (x18 : Int32) (z19 : Int32) => sx_lt (fun (z20 : Nat → Int32) => sx_nm (x1_ + (1 : Int32)) (fun (v21 : Int32) => (r_ v21 z19 w14 z20))) (fun (k_221 : (Nat → Int32) → Option (Int32 × Int32 × Int32 × (Nat → Int32))) => (if w14 = 0 then sx_gd (sx_ib ((2 : Int32) * x1_) 12) (sx_gd (sx_ib (((2 : Int32) * x1_) + (1 : Int32)) 12) ((k_221 (upd (upd m_read (((2 : Int32) * x1_)).toNatClampNeg y11) ((((2 : Int32) * x1_) + (1 : Int32))).toNatClampNeg x18)))) else (k_221 m_read)))) (fun (k_193 : Int32 → Int32 → Option (Int32 × Int32 × Int32 × (Nat → Int32))) => sx_lp3 (bdX5_readPersons_145 F m_tape m_typed k_193) F (0 : Int32) y16 z17)) (fun (k_143 : Int32 → Int32 → Option (Int32 × Int32 × Int32 × (Nat → Int32))) => (if w14 = 0 then sx_c2 (fnX5_here F m_tape m_typed w13) (fun (r38 : Int32) (w39 : Int32) => (k_143 (r38 - (48 : Int32)) w39)) else (k_143 (-1 : Int32) w13))))) (fun (k_119 : Int32 → Option (Int32 × Int32 × Int32 × (Nat → Int32))) => (if y11 < 0 then (k_119 (0 : Int32)) else (k_119 (1 : Int32))))) (fun (k_108 : Int32 → Option (Int32 × Int32 × Int32 × (Nat → Int32))) => (if y9 = (112 : Int32) then (k_108 (0 : Int32)) else (if y9 = (108 : Int32) then (k_108 (1 : Int32)) else (if y9 = (100 : Int32) then (k_108 (2 : Int32)) else (if y9 = (101 : Int32) then (k_108 (3 : Int32)) else (if y9 = (102 : Int32) then (k_108 (4 : Int32)) else (k_108 (-1 : Int32))))))))) (fun (k_56 : Int32 → Int32 → Option (Int32 × Int32 × Int32 × (Nat → Int32))) => (if z8 = 0 then sx_c2 (fnX5_here F m_tape m_typed z7) (fun (r48 : Int32) (w49 : Int32) => (k_56 r48 w49)) else (k_56 (0 : Int32) z7)))) (fun (k_41 : Int32 → Int32 → Option (Int32 × Int32 × Int32 × (Nat → Int32))) => (if x1_ ≤ 0 then (k_41 z6 m_isFault) else (if (6 : Int32) ≤ x1_ then sx_c2 (fnX5_must F z6 m_isFault (0 : Int32)) (fun (w53 : Int32) (w54 : Int32) => (k_41 w53 w54)) else sx_c2 (fnX5_must F z6 m_isFault (1 : Int32)) (fun (w56 : Int32) (w57 : Int32) => (k_41 w56 w57)))))) (fun (k_22 : Int32 → Option (Int32 × Int32 × Int32 × (Nat → Int32))) => (if x1_ = 0 then (k_22 m_place) else sx_c2 (fnX5_here F m_tape m_typed m_place) (fun (r60 : Int32) (w61 : Int32) => (if r60 = (44 : Int32) then (k_22 w61) else (some (x1_, w61, m_isFault, m_read)))))) else (some (x1_, m_place, m_isFault, m_read)))
def fnX5_readPersons (F : Nat) (m_tape : Nat → Int32) (m_typed : Int32) (m_place : Int32) (m_isFault : Int32) (m_read : Nat → Int32) : Option (Int32 × Int32 × Int32 × (Nat → Int32)) :=
  sx_lp4 (bdX5_readPersons_2 F m_tape m_typed) F (0 : Int32) m_place m_isFault m_read
set_option maxHeartbeats 4000000 in
set_option maxRecDepth 100000 in
theorem kwX5_readPersons {p : Program} {l : Launch} {e : Env} {R : Room} {s : State} {m : MethodId} {args : Array Value} {below : List Frame} {meth : Method} {c : Code} {cells slots : Nat} {Q : State → Prop} {A : Nat → Prop} {H0 : Heap} {D : va_G} {cI cJ cS : ClassId} (hx : p.tables.exec = Jvm.exec) (hb : c.code = cX5_readPersons) (hml : c.maxLocals = 6) (hown : s.vm.findClass RX5 = some m.cls) (hts : ∀ w ∈ wsX5_readPersons, w.before args s = true) (hN : sx_N s) (hK : va_K D vwCl (sx_T cI cJ cS) s) (hA : ∀ q, H0.size ≤ q → A q) (hRf : 2 ≤ R.frames) (hRl : 45 ≤ R.locals) (hRc : cells ≤ R.cells ∧ slots ≤ R.slots) (m_h m_now_a m_tape_a m_read_a m_heard_a m_undone_a m_aside_a m_kept_a m_lanes_a m_sizes_a m_items_a m_moved_a : Nat) (m_tape : Nat → Int32) (m_typed : Int32) (m_place : Int32) (m_isFault : Int32) (m_read : Nat → Int32) (m_undos : Int32) (m_keptUndos : Int32) (m_isKept : Int32) (F : Nat) (r0 : Int32) (w_m_place : Int32) (w_m_isFault : Int32) (w_m_read : Nat → Int32) (hM : fnX5_readPersons F m_tape m_typed m_place m_isFault m_read = some (r0, w_m_place, w_m_isFault, w_m_read)) (H : Heap) (locs : List Loc) (ls : Array Slot) (hl : lv_has ls 6 [(0, .ref m_h)]) (hP : va_P D vwCl [(m_h, .inr (5, [.ref m_now_a, .ref m_tape_a, .int m_typed, .int m_place, .int m_isFault, .ref m_read_a, .ref m_heard_a, .ref m_undone_a, .int m_undos, .ref m_aside_a, .ref m_kept_a, .int m_keptUndos, .int m_isKept, .ref m_lanes_a, .ref m_sizes_a, .ref m_items_a, .ref m_moved_a])), (m_tape_a, .inl (cI, 70, .inl m_tape)), (m_read_a, .inl (cI, 12, .inl m_read))] H) (hD : va_D A [(m_h, .inr (5, [.ref m_now_a, .ref m_tape_a, .int m_typed, .int m_place, .int m_isFault, .ref m_read_a, .ref m_heard_a, .ref m_undone_a, .int m_undos, .ref m_aside_a, .ref m_kept_a, .int m_keptUndos, .int m_isKept, .ref m_lanes_a, .ref m_sizes_a, .ref m_items_a, .ref m_moved_a])), (m_tape_a, .inl (cI, 70, .inl m_tape)), (m_read_a, .inl (cI, 12, .inl m_read))]) (hS : va_S A H0 H locs)
    (hret : ∀ (H1 : Heap) (locs1 : List Loc) (ls1 : Array Slot) (pc1 : Nat), decode cX5_readPersons pc1 = .ok (.ireturn, 1) → va_P D vwCl [(m_h, .inr (5, [.ref m_now_a, .ref m_tape_a, .int m_typed, .int w_m_place, .int w_m_isFault, .ref m_read_a, .ref m_heard_a, .ref m_undone_a, .int m_undos, .ref m_aside_a, .ref m_kept_a, .int m_keptUndos, .int m_isKept, .ref m_lanes_a, .ref m_sizes_a, .ref m_items_a, .ref m_moved_a])), (m_tape_a, .inl (cI, 70, .inl m_tape)), (m_read_a, .inl (cI, 12, .inl w_m_read))] H1 → va_D A [(m_h, .inr (5, [.ref m_now_a, .ref m_tape_a, .int m_typed, .int w_m_place, .int w_m_isFault, .ref m_read_a, .ref m_heard_a, .ref m_undone_a, .int m_undos, .ref m_aside_a, .ref m_kept_a, .int m_keptUndos, .int m_isKept, .ref m_lanes_a, .ref m_sizes_a, .ref m_items_a, .ref m_moved_a])), (m_tape_a, .inl (cI, 70, .inl m_tape)), (m_read_a, .inl (cI, 12, .inl w_m_read))] → va_S A H0 H1 locs1 → W p l e R s m args below meth c H1 locs1 cells slots Q (F0 m pc1 ls1 [.int r0])) : W p l e R s m args below meth c H locs cells slots Q (F0 m 0 ls []) := by
  have hf_16 := hts (.fieldLink RX5 16 "SealedLipsModel" "read" "[I") (by decide +kernel)
  have hf_120 := hts (.fieldLink RX5 120 "SealedLipsModel" "place" "I") (by decide +kernel)
  have hf_123 := hts (.fieldLink RX5 123 "SealedLipsModel" "isFault" "Z") (by decide +kernel)
  have hin_X5 : ∀ w ∈ wsX50, w ∈ wsX5_readPersons := by decide +kernel
  unfold fnX5_readPersons at hM
  refine lv_iconst (v := 0) hx hb dX5_readPersons_0 (by decide) ?_
  refine lv_istore_n (lv' := [(1, .int (0 : Int32)), (0, .ref m_h)]) hx hb dX5_readPersons_1 rfl hl (by decide) rfl (fun ls hl => ?_)
  have lp_2 : ∀ (n : Nat) (x1 : Int32) (z2 : Int32) (z3 : Int32) (z4 : Nat → Int32) (H : Heap) (locs : List Loc) (ls : Array Slot), sx_lp4 (bdX5_readPersons_2 F m_tape m_typed) n x1 z2 z3 z4 = some (r0, w_m_place, w_m_isFault, w_m_read) → lv_has ls 6 [(0, .ref m_h), (1, .int x1)] → va_P D vwCl [(m_h, .inr (5, [.ref m_now_a, .ref m_tape_a, .int m_typed, .int z2, .int z3, .ref m_read_a, .ref m_heard_a, .ref m_undone_a, .int m_undos, .ref m_aside_a, .ref m_kept_a, .int m_keptUndos, .int m_isKept, .ref m_lanes_a, .ref m_sizes_a, .ref m_items_a, .ref m_moved_a])), (m_tape_a, .inl (cI, 70, .inl m_tape)), (m_read_a, .inl (cI, 12, .inl z4))] H → va_D A [(m_h, .inr (5, [.ref m_now_a, .ref m_tape_a, .int m_typed, .int z2, .int z3, .ref m_read_a, .ref m_heard_a, .ref m_undone_a, .int m_undos, .ref m_aside_a, .ref m_kept_a, .int m_keptUndos, .int m_isKept, .ref m_lanes_a, .ref m_sizes_a, .ref m_items_a, .ref m_moved_a])), (m_tape_a, .inl (cI, 70, .inl m_tape)), (m_read_a, .inl (cI, 12, .inl z4))] → va_S A H0 H locs → W p l e R s m args below meth c H locs cells slots Q (F0 m 2 ls ([])) := by
    intro n
    induction n with
    | zero => intro x1 z2 z3 z4 H locs ls hM; exact (sx_lp4_0 hM).elim
    | succ n ih =>
      intro x1 z2 z3 z4 H locs ls hM hl hP hD hS
      have hM : bdX5_readPersons_2 F m_tape m_typed (sx_lp4 (bdX5_readPersons_2 F m_tape m_typed) n) x1 z2 z3 z4 = some (r0, w_m_place, w_m_isFault, w_m_read) := hM
      generalize sx_lp4 (bdX5_readPersons_2 F m_tape m_typed) n = r_2 at hM ih
      unfold bdX5_readPersons_2 at hM
      refine lv_aload_n hx hb dX5_readPersons_2 rfl (lv_at hl 0 rfl) ?_
      refine va_get (D := D) (ci := 5) (v := .int z3) (C := RX5) (T := TX5) (N := 17) hx hb hts hin_X5 hown hK hP 0 rfl rfl 4 (by decide) hf_123 (fun _ h9 => h9) rfl dX5_readPersons_3 ?_
      refine lv_if_ne (tgt := 227) hx hb dX5_readPersons_6 (by decide) (fun c5 => ?_) (fun c5 => ?_)
      · replace hM := sx_iff c5 hM
        refine lv_iload_n hx hb dX5_readPersons_227 rfl (lv_at hl 1 rfl) ?_
        obtain ⟨rfl, rfl, rfl, rfl⟩ := sx_o4 hM
        exact hret _ _ _ _ dX5_readPersons_228 (hP.sub [0, 1, 2] rfl) (hD.sub [0, 1, 2] (by decide) rfl) hS
      · replace hM := sx_ift c5 hM
        refine lv_iload_n hx hb dX5_readPersons_9 rfl (lv_at hl 1 rfl) ?_
        obtain ⟨k_22, ek_22, hM⟩ := sx_lt_s hM
        have hk_22 : ∀ (z6 : Int32) (H : Heap) (locs : List Loc) (ls : Array Slot), k_22 z6 = some (r0, w_m_place, w_m_isFault, w_m_read) → lv_has ls 6 [(0, .ref m_h), (1, .int x1)] → va_P D vwCl [(m_h, .inr (5, [.ref m_now_a, .ref m_tape_a, .int m_typed, .int z6, .int z3, .ref m_read_a, .ref m_heard_a, .ref m_undone_a, .int m_undos, .ref m_aside_a, .ref m_kept_a, .int m_keptUndos, .int m_isKept, .ref m_lanes_a, .ref m_sizes_a, .ref m_items_a, .ref m_moved_a])), (m_tape_a, .inl (cI, 70, .inl m_tape)), (m_read_a, .inl (cI, 12, .inl z4))] H → va_D A [(m_h, .inr (5, [.ref m_now_a, .ref m_tape_a, .int m_typed, .int z6, .int z3, .ref m_read_a, .ref m_heard_a, .ref m_undone_a, .int m_undos, .ref m_aside_a, .ref m_kept_a, .int m_keptUndos, .int m_isKept, .ref m_lanes_a, .ref m_sizes_a, .ref m_items_a, .ref m_moved_a])), (m_tape_a, .inl (cI, 70, .inl m_tape)), (m_read_a, .inl (cI, 12, .inl z4))] → va_S A H0 H locs → W p l e R s m args below meth c H locs cells slots Q (F0 m 22 ls ([])) := by
          intro z6 H locs ls hM hl hP hD hS
          rw [ek_22] at hM
          refine lv_iload_n hx hb dX5_readPersons_22 rfl (lv_at hl 1 rfl) ?_
          obtain ⟨k_41, ek_41, hM⟩ := sx_lt_s hM
          have hk_41 : ∀ (z7 : Int32) (z8 : Int32) (H : Heap) (locs : List Loc) (ls : Array Slot), k_41 z7 z8 = some (r0, w_m_place, w_m_isFault, w_m_read) → lv_has ls 6 [(0, .ref m_h), (1, .int x1)] → va_P D vwCl [(m_h, .inr (5, [.ref m_now_a, .ref m_tape_a, .int m_typed, .int z7, .int z8, .ref m_read_a, .ref m_heard_a, .ref m_undone_a, .int m_undos, .ref m_aside_a, .ref m_kept_a, .int m_keptUndos, .int m_isKept, .ref m_lanes_a, .ref m_sizes_a, .ref m_items_a, .ref m_moved_a])), (m_tape_a, .inl (cI, 70, .inl m_tape)), (m_read_a, .inl (cI, 12, .inl z4))] H → va_D A [(m_h, .inr (5, [.ref m_now_a, .ref m_tape_a, .int m_typed, .int z7, .int z8, .ref m_read_a, .ref m_heard_a, .ref m_undone_a, .int m_undos, .ref m_aside_a, .ref m_kept_a, .int m_keptUndos, .int m_isKept, .ref m_lanes_a, .ref m_sizes_a, .ref m_items_a, .ref m_moved_a])), (m_tape_a, .inl (cI, 70, .inl m_tape)), (m_read_a, .inl (cI, 12, .inl z4))] → va_S A H0 H locs → W p l e R s m args below meth c H locs cells slots Q (F0 m 41 ls ([])) := by
            intro z7 z8 H locs ls hM hl hP hD hS
            rw [ek_41] at hM
            refine lv_aload_n hx hb dX5_readPersons_41 rfl (lv_at hl 0 rfl) ?_
            refine va_get (D := D) (ci := 5) (v := .int z8) (C := RX5) (T := TX5) (N := 17) hx hb hts hin_X5 hown hK hP 0 rfl rfl 4 (by decide) hf_123 (fun _ h9 => h9) rfl dX5_readPersons_42 ?_
            obtain ⟨k_56, ek_56, hM⟩ := sx_lt_s hM
            have hk_56 : ∀ (y9 : Int32) (z10 : Int32) (H : Heap) (locs : List Loc) (ls : Array Slot), k_56 y9 z10 = some (r0, w_m_place, w_m_isFault, w_m_read) → lv_has ls 6 [(0, .ref m_h), (1, .int x1)] → va_P D vwCl [(m_h, .inr (5, [.ref m_now_a, .ref m_tape_a, .int m_typed, .int z10, .int z8, .ref m_read_a, .ref m_heard_a, .ref m_undone_a, .int m_undos, .ref m_aside_a, .ref m_kept_a, .int m_keptUndos, .int m_isKept, .ref m_lanes_a, .ref m_sizes_a, .ref m_items_a, .ref m_moved_a])), (m_tape_a, .inl (cI, 70, .inl m_tape)), (m_read_a, .inl (cI, 12, .inl z4))] H → va_D A [(m_h, .inr (5, [.ref m_now_a, .ref m_tape_a, .int m_typed, .int z10, .int z8, .ref m_read_a, .ref m_heard_a, .ref m_undone_a, .int m_undos, .ref m_aside_a, .ref m_kept_a, .int m_keptUndos, .int m_isKept, .ref m_lanes_a, .ref m_sizes_a, .ref m_items_a, .ref m_moved_a])), (m_tape_a, .inl (cI, 70, .inl m_tape)), (m_read_a, .inl (cI, 12, .inl z4))] → va_S A H0 H locs → W p l e R s m args below meth c H locs cells slots Q (F0 m 56 ls (.int y9 :: [])) := by
              intro y9 z10 H locs ls hM hl hP hD hS
              rw [ek_56] at hM
              refine lv_istore_n (lv' := [(2, .int y9), (0, .ref m_h), (1, .int x1)]) hx hb dX5_readPersons_56 rfl hl (by decide) rfl (fun ls hl => ?_)
              refine lv_iload_n hx hb dX5_readPersons_57 rfl (lv_at hl 0 rfl) ?_
              refine lv_bipush (v := 112) hx hb dX5_readPersons_58 (by decide) ?_
              obtain ⟨k_108, ek_108, hM⟩ := sx_lt_s hM
              have hk_108 : ∀ (y11 : Int32) (H : Heap) (locs : List Loc) (ls : Array Slot), k_108 y11 = some (r0, w_m_place, w_m_isFault, w_m_read) → lv_has ls 6 [(0, .ref m_h), (1, .int x1)] → va_P D vwCl [(m_h, .inr (5, [.ref m_now_a, .ref m_tape_a, .int m_typed, .int z10, .int z8, .ref m_read_a, .ref m_heard_a, .ref m_undone_a, .int m_undos, .ref m_aside_a, .ref m_kept_a, .int m_keptUndos, .int m_isKept, .ref m_lanes_a, .ref m_sizes_a, .ref m_items_a, .ref m_moved_a])), (m_tape_a, .inl (cI, 70, .inl m_tape)), (m_read_a, .inl (cI, 12, .inl z4))] H → va_D A [(m_h, .inr (5, [.ref m_now_a, .ref m_tape_a, .int m_typed, .int z10, .int z8, .ref m_read_a, .ref m_heard_a, .ref m_undone_a, .int m_undos, .ref m_aside_a, .ref m_kept_a, .int m_keptUndos, .int m_isKept, .ref m_lanes_a, .ref m_sizes_a, .ref m_items_a, .ref m_moved_a])), (m_tape_a, .inl (cI, 70, .inl m_tape)), (m_read_a, .inl (cI, 12, .inl z4))] → va_S A H0 H locs → W p l e R s m args below meth c H locs cells slots Q (F0 m 108 ls (.int y11 :: [])) := by
                intro y11 H locs ls hM hl hP hD hS
                rw [ek_108] at hM
                refine lv_istore_n (lv' := [(3, .int y11), (0, .ref m_h), (1, .int x1)]) hx hb dX5_readPersons_108 rfl hl (by decide) rfl (fun ls hl => ?_)
                refine lv_aload_n hx hb dX5_readPersons_109 rfl (lv_at hl 1 rfl) ?_
                refine lv_iload_n hx hb dX5_readPersons_110 rfl (lv_at hl 0 rfl) ?_
                obtain ⟨k_119, ek_119, hM⟩ := sx_lt_s hM
                have hk_119 : ∀ (y12 : Int32) (H : Heap) (locs : List Loc) (ls : Array Slot), k_119 y12 = some (r0, w_m_place, w_m_isFault, w_m_read) → lv_has ls 6 [(0, .ref m_h), (1, .int x1), (3, .int y11)] → va_P D vwCl [(m_h, .inr (5, [.ref m_now_a, .ref m_tape_a, .int m_typed, .int z10, .int z8, .ref m_read_a, .ref m_heard_a, .ref m_undone_a, .int m_undos, .ref m_aside_a, .ref m_kept_a, .int m_keptUndos, .int m_isKept, .ref m_lanes_a, .ref m_sizes_a, .ref m_items_a, .ref m_moved_a])), (m_tape_a, .inl (cI, 70, .inl m_tape)), (m_read_a, .inl (cI, 12, .inl z4))] H → va_D A [(m_h, .inr (5, [.ref m_now_a, .ref m_tape_a, .int m_typed, .int z10, .int z8, .ref m_read_a, .ref m_heard_a, .ref m_undone_a, .int m_undos, .ref m_aside_a, .ref m_kept_a, .int m_keptUndos, .int m_isKept, .ref m_lanes_a, .ref m_sizes_a, .ref m_items_a, .ref m_moved_a])), (m_tape_a, .inl (cI, 70, .inl m_tape)), (m_read_a, .inl (cI, 12, .inl z4))] → va_S A H0 H locs → W p l e R s m args below meth c H locs cells slots Q (F0 m 119 ls (.int y12 :: .ref m_h :: [])) := by
                  intro y12 H locs ls hM hl hP hD hS
                  rw [ek_119] at hM
                  obtain ⟨w13, w14, hc15, hM⟩ := sx_c2_s hM
                  refine sx_vV (As := [.int y12]) (rest := []) (wc := [(m_h, .inr (5, [.ref m_now_a, .ref m_tape_a, .int m_typed, .int z10, .int z8, .ref m_read_a, .ref m_heard_a, .ref m_undone_a, .int m_undos, .ref m_aside_a, .ref m_kept_a, .int m_keptUndos, .int m_isKept, .ref m_lanes_a, .ref m_sizes_a, .ref m_items_a, .ref m_moved_a]))]) (wr := [(m_tape_a, .inl (cI, 70, .inl m_tape)), (m_read_a, .inl (cI, 12, .inl z4))]) (w1 := [(m_h, .inr (5, [.ref m_now_a, .ref m_tape_a, .int m_typed, .int w13, .int w14, .ref m_read_a, .ref m_heard_a, .ref m_undone_a, .int m_undos, .ref m_aside_a, .ref m_kept_a, .int m_keptUndos, .int m_isKept, .ref m_lanes_a, .ref m_sizes_a, .ref m_items_a, .ref m_moved_a]))]) ⟨hx, hb, hml, hown, hts⟩ (mtX5_must l D cI cJ cS H.size m_h m_now_a m_tape_a m_read_a m_heard_a m_undone_a m_aside_a m_kept_a m_lanes_a m_sizes_a m_items_a m_moved_a m_typed z10 z8 m_undos m_keptUndos m_isKept y12 F w13 w14 hc15) (cwV 1 hts gX5_readPersons_X5_must rfl rfl rfl (by decide +kernel) ⟨Nat.le_trans (by decide) hRf, Nat.le_trans (by decide) hRl⟩) hK hN hP hD hS hA [0] [1, 2] rfl (by decide) rfl (by decide) (by decide) rfl rfl rfl rfl hl.1 rfl (Nat.le_of_ble_eq_true rfl) dX5_readPersons_119 hRc (fun H locs hP hD hS => ?_)
                  have hP : va_P D vwCl [(m_tape_a, .inl (cI, 70, .inl m_tape)), (m_read_a, .inl (cI, 12, .inl z4)), (m_h, .inr (5, [.ref m_now_a, .ref m_tape_a, .int m_typed, .int w13, .int w14, .ref m_read_a, .ref m_heard_a, .ref m_undone_a, .int m_undos, .ref m_aside_a, .ref m_kept_a, .int m_keptUndos, .int m_isKept, .ref m_lanes_a, .ref m_sizes_a, .ref m_items_a, .ref m_moved_a]))] H := hP
                  have hD : va_D A [(m_tape_a, .inl (cI, 70, .inl m_tape)), (m_read_a, .inl (cI, 12, .inl z4)), (m_h, .inr (5, [.ref m_now_a, .ref m_tape_a, .int m_typed, .int w13, .int w14, .ref m_read_a, .ref m_heard_a, .ref m_undone_a, .int m_undos, .ref m_aside_a, .ref m_kept_a, .int m_keptUndos, .int m_isKept, .ref m_lanes_a, .ref m_sizes_a, .ref m_items_a, .ref m_moved_a]))] := hD
                  refine lv_iconst (v := 0) hx hb dX5_readPersons_122 (by decide) ?_
                  refine lv_istore (lv' := [(4, .int (0 : Int32)), (0, .ref m_h), (1, .int x1), (3, .int y11)]) hx hb dX5_readPersons_123 hl (by decide) rfl (fun ls hl => ?_)
                  refine lv_aload_n hx hb dX5_readPersons_125 rfl (lv_at hl 1 rfl) ?_
                  refine va_get (D := D) (ci := 5) (v := .int w14) (C := RX5) (T := TX5) (N := 17) hx hb hts hin_X5 hown hK hP 2 rfl rfl 4 (by decide) hf_123 (fun _ h9 => h9) rfl dX5_readPersons_126 ?_
                  obtain ⟨k_143, ek_143, hM⟩ := sx_lt_s hM
                  have hk_143 : ∀ (y16 : Int32) (z17 : Int32) (H : Heap) (locs : List Loc) (ls : Array Slot), k_143 y16 z17 = some (r0, w_m_place, w_m_isFault, w_m_read) → lv_has ls 6 [(0, .ref m_h), (1, .int x1), (3, .int y11), (4, .int (0 : Int32))] → va_P D vwCl [(m_tape_a, .inl (cI, 70, .inl m_tape)), (m_read_a, .inl (cI, 12, .inl z4)), (m_h, .inr (5, [.ref m_now_a, .ref m_tape_a, .int m_typed, .int z17, .int w14, .ref m_read_a, .ref m_heard_a, .ref m_undone_a, .int m_undos, .ref m_aside_a, .ref m_kept_a, .int m_keptUndos, .int m_isKept, .ref m_lanes_a, .ref m_sizes_a, .ref m_items_a, .ref m_moved_a]))] H → va_D A [(m_tape_a, .inl (cI, 70, .inl m_tape)), (m_read_a, .inl (cI, 12, .inl z4)), (m_h, .inr (5, [.ref m_now_a, .ref m_tape_a, .int m_typed, .int z17, .int w14, .ref m_read_a, .ref m_heard_a, .ref m_undone_a, .int m_undos, .ref m_aside_a, .ref m_kept_a, .int m_keptUndos, .int m_isKept, .ref m_lanes_a, .ref m_sizes_a, .ref m_items_a, .ref m_moved_a]))] → va_S A H0 H locs → W p l e R s m args below meth c H locs cells slots Q (F0 m 143 ls (.int y16 :: [])) := by
                    intro y16 z17 H locs ls hM hl hP hD hS
                    rw [ek_143] at hM
                    refine lv_istore (lv' := [(5, .int y16), (0, .ref m_h), (1, .int x1), (3, .int y11), (4, .int (0 : Int32))]) hx hb dX5_readPersons_143 hl (by decide) rfl (fun ls hl => ?_)
                    obtain ⟨k_193, ek_193, hM⟩ := sx_lt_s hM
                    have hk_193 : ∀ (x18 : Int32) (z19 : Int32) (H : Heap) (locs : List Loc) (ls : Array Slot), k_193 x18 z19 = some (r0, w_m_place, w_m_isFault, w_m_read) → lv_has ls 6 [(0, .ref m_h), (1, .int x1), (3, .int y11), (4, .int x18)] → va_P D vwCl [(m_tape_a, .inl (cI, 70, .inl m_tape)), (m_read_a, .inl (cI, 12, .inl z4)), (m_h, .inr (5, [.ref m_now_a, .ref m_tape_a, .int m_typed, .int z19, .int w14, .ref m_read_a, .ref m_heard_a, .ref m_undone_a, .int m_undos, .ref m_aside_a, .ref m_kept_a, .int m_keptUndos, .int m_isKept, .ref m_lanes_a, .ref m_sizes_a, .ref m_items_a, .ref m_moved_a]))] H → va_D A [(m_tape_a, .inl (cI, 70, .inl m_tape)), (m_read_a, .inl (cI, 12, .inl z4)), (m_h, .inr (5, [.ref m_now_a, .ref m_tape_a, .int m_typed, .int z19, .int w14, .ref m_read_a, .ref m_heard_a, .ref m_undone_a, .int m_undos, .ref m_aside_a, .ref m_kept_a, .int m_keptUndos, .int m_isKept, .ref m_lanes_a, .ref m_sizes_a, .ref m_items_a, .ref m_moved_a]))] → va_S A H0 H locs → W p l e R s m args below meth c H locs cells slots Q (F0 m 193 ls ([])) := by
                      intro x18 z19 H locs ls hM hl hP hD hS
                      rw [ek_193] at hM
                      refine lv_aload_n hx hb dX5_readPersons_193 rfl (lv_at hl 0 rfl) ?_
                      refine va_get (D := D) (ci := 5) (v := .int w14) (C := RX5) (T := TX5) (N := 17) hx hb hts hin_X5 hown hK hP 2 rfl rfl 4 (by decide) hf_123 (fun _ h9 => h9) rfl dX5_readPersons_194 ?_
                      obtain ⟨k_221, ek_221, hM⟩ := sx_lt_s hM
                      have hk_221 : ∀ (z20 : Nat → Int32) (H : Heap) (locs : List Loc) (ls : Array Slot), k_221 z20 = some (r0, w_m_place, w_m_isFault, w_m_read) → lv_has ls 6 [(0, .ref m_h), (1, .int x1)] → va_P D vwCl [(m_tape_a, .inl (cI, 70, .inl m_tape)), (m_read_a, .inl (cI, 12, .inl z20)), (m_h, .inr (5, [.ref m_now_a, .ref m_tape_a, .int m_typed, .int z19, .int w14, .ref m_read_a, .ref m_heard_a, .ref m_undone_a, .int m_undos, .ref m_aside_a, .ref m_kept_a, .int m_keptUndos, .int m_isKept, .ref m_lanes_a, .ref m_sizes_a, .ref m_items_a, .ref m_moved_a]))] H → va_D A [(m_tape_a, .inl (cI, 70, .inl m_tape)), (m_read_a, .inl (cI, 12, .inl z20)), (m_h, .inr (5, [.ref m_now_a, .ref m_tape_a, .int m_typed, .int z19, .int w14, .ref m_read_a, .ref m_heard_a, .ref m_undone_a, .int m_undos, .ref m_aside_a, .ref m_kept_a, .int m_keptUndos, .int m_isKept, .ref m_lanes_a, .ref m_sizes_a, .ref m_items_a, .ref m_moved_a]))] → va_S A H0 H locs → W p l e R s m args below meth c H locs cells slots Q (F0 m 221 ls ([])) := by
                        intro z20 H locs ls hM hl hP hD hS
                        rw [ek_221] at hM
                        obtain ⟨v21, ev21, hM⟩ := sx_nm_s hM
                        refine lv_iinc (v := v21) (lv' := [(1, .int v21), (0, .ref m_h)]) hx hb dX5_readPersons_221 hl (k := 1) rfl (by rw [ev21]; rfl) (by decide) rfl (fun ls hl => ?_)
                        refine lv_goto (tgt := 2) hx hb dX5_readPersons_224 (by decide) ?_
                        exact ih v21 z19 w14 z20 _ _ _ hM (lv_sub hl [1, 0] rfl) (hP.sub [2, 0, 1] rfl) (hD.sub [2, 0, 1] (by decide) rfl) hS
                      refine lv_if_ne (tgt := 221) hx hb dX5_readPersons_197 (by decide) (fun c22 => ?_) (fun c22 => ?_)
                      · replace hM := sx_iff c22 hM
                        exact hk_221 z4 _ _ _ hM (lv_sub hl [0, 1] rfl) (hP.sub [0, 1, 2] rfl) (hD.sub [0, 1, 2] (by decide) rfl) hS
                      · replace hM := sx_ift c22 hM
                        refine lv_aload_n hx hb dX5_readPersons_200 rfl (lv_at hl 0 rfl) ?_
                        refine va_get (D := D) (ci := 5) (v := .ref m_read_a) (C := RX5) (T := TX5) (N := 17) hx hb hts hin_X5 hown hK hP 2 rfl rfl 5 (by decide) hf_16 (fun _ h9 => h9) rfl dX5_readPersons_201 ?_
                        refine lv_iconst (v := 2) hx hb dX5_readPersons_204 (by decide) ?_
                        refine lv_iload_n hx hb dX5_readPersons_205 rfl (lv_at hl 1 rfl) ?_
                        refine lv_imul hx hb dX5_readPersons_206 ?_
                        refine lv_iload_n hx hb dX5_readPersons_207 rfl (lv_at hl 2 rfl) ?_
                        obtain ⟨g23, hM⟩ := sx_gd_s hM
                        refine va_iast hx hb hK hP hD hS 1 0 rfl rfl (sx_ib_s g23) dX5_readPersons_208 (fun H locs hP hD hS => ?_)
                        have hP : va_P D vwCl [(m_tape_a, .inl (cI, 70, .inl m_tape)), (m_read_a, .inl (cI, 12, .inl (upd z4 (((2 : Int32) * x1)).toNatClampNeg y11))), (m_h, .inr (5, [.ref m_now_a, .ref m_tape_a, .int m_typed, .int z19, .int w14, .ref m_read_a, .ref m_heard_a, .ref m_undone_a, .int m_undos, .ref m_aside_a, .ref m_kept_a, .int m_keptUndos, .int m_isKept, .ref m_lanes_a, .ref m_sizes_a, .ref m_items_a, .ref m_moved_a]))] H := hP
                        have hD : va_D A [(m_tape_a, .inl (cI, 70, .inl m_tape)), (m_read_a, .inl (cI, 12, .inl (upd z4 (((2 : Int32) * x1)).toNatClampNeg y11))), (m_h, .inr (5, [.ref m_now_a, .ref m_tape_a, .int m_typed, .int z19, .int w14, .ref m_read_a, .ref m_heard_a, .ref m_undone_a, .int m_undos, .ref m_aside_a, .ref m_kept_a, .int m_keptUndos, .int m_isKept, .ref m_lanes_a, .ref m_sizes_a, .ref m_items_a, .ref m_moved_a]))] := hD
                        refine lv_aload_n hx hb dX5_readPersons_209 rfl (lv_at hl 0 rfl) ?_
                        refine va_get (D := D) (ci := 5) (v := .ref m_read_a) (C := RX5) (T := TX5) (N := 17) hx hb hts hin_X5 hown hK hP 2 rfl rfl 5 (by decide) hf_16 (fun _ h9 => h9) rfl dX5_readPersons_210 ?_
                        refine lv_iconst (v := 2) hx hb dX5_readPersons_213 (by decide) ?_
                        refine lv_iload_n hx hb dX5_readPersons_214 rfl (lv_at hl 1 rfl) ?_
                        refine lv_imul hx hb dX5_readPersons_215 ?_
                        refine lv_iconst (v := 1) hx hb dX5_readPersons_216 (by decide) ?_
                        refine lv_iadd hx hb dX5_readPersons_217 ?_
                        refine lv_iload hx hb dX5_readPersons_218 (lv_at hl 3 rfl) ?_
                        obtain ⟨g24, hM⟩ := sx_gd_s hM
                        refine va_iast hx hb hK hP hD hS 1 0 rfl rfl (sx_ib_s g24) dX5_readPersons_220 (fun H locs hP hD hS => ?_)
                        have hP : va_P D vwCl [(m_tape_a, .inl (cI, 70, .inl m_tape)), (m_read_a, .inl (cI, 12, .inl (upd (upd z4 (((2 : Int32) * x1)).toNatClampNeg y11) ((((2 : Int32) * x1) + (1 : Int32))).toNatClampNeg x18))), (m_h, .inr (5, [.ref m_now_a, .ref m_tape_a, .int m_typed, .int z19, .int w14, .ref m_read_a, .ref m_heard_a, .ref m_undone_a, .int m_undos, .ref m_aside_a, .ref m_kept_a, .int m_keptUndos, .int m_isKept, .ref m_lanes_a, .ref m_sizes_a, .ref m_items_a, .ref m_moved_a]))] H := hP
                        have hD : va_D A [(m_tape_a, .inl (cI, 70, .inl m_tape)), (m_read_a, .inl (cI, 12, .inl (upd (upd z4 (((2 : Int32) * x1)).toNatClampNeg y11) ((((2 : Int32) * x1) + (1 : Int32))).toNatClampNeg x18))), (m_h, .inr (5, [.ref m_now_a, .ref m_tape_a, .int m_typed, .int z19, .int w14, .ref m_read_a, .ref m_heard_a, .ref m_undone_a, .int m_undos, .ref m_aside_a, .ref m_kept_a, .int m_keptUndos, .int m_isKept, .ref m_lanes_a, .ref m_sizes_a, .ref m_items_a, .ref m_moved_a]))] := hD
                        exact hk_221 (upd (upd z4 (((2 : Int32) * x1)).toNatClampNeg y11) ((((2 : Int32) * x1) + (1 : Int32))).toNatClampNeg x18) _ _ _ hM (lv_sub hl [0, 1] rfl) (hP.sub [0, 1, 2] rfl) (hD.sub [0, 1, 2] (by decide) rfl) hS
                    have lp_145 : ∀ (n : Nat) (x25 : Int32) (x26 : Int32) (z27 : Int32) (H : Heap) (locs : List Loc) (ls : Array Slot), sx_lp3 (bdX5_readPersons_145 F m_tape m_typed k_193) n x25 x26 z27 = some (r0, w_m_place, w_m_isFault, w_m_read) → lv_has ls 6 [(0, .ref m_h), (1, .int x1), (3, .int y11), (4, .int x25), (5, .int x26)] → va_P D vwCl [(m_tape_a, .inl (cI, 70, .inl m_tape)), (m_read_a, .inl (cI, 12, .inl z4)), (m_h, .inr (5, [.ref m_now_a, .ref m_tape_a, .int m_typed, .int z27, .int w14, .ref m_read_a, .ref m_heard_a, .ref m_undone_a, .int m_undos, .ref m_aside_a, .ref m_kept_a, .int m_keptUndos, .int m_isKept, .ref m_lanes_a, .ref m_sizes_a, .ref m_items_a, .ref m_moved_a]))] H → va_D A [(m_tape_a, .inl (cI, 70, .inl m_tape)), (m_read_a, .inl (cI, 12, .inl z4)), (m_h, .inr (5, [.ref m_now_a, .ref m_tape_a, .int m_typed, .int z27, .int w14, .ref m_read_a, .ref m_heard_a, .ref m_undone_a, .int m_undos, .ref m_aside_a, .ref m_kept_a, .int m_keptUndos, .int m_isKept, .ref m_lanes_a, .ref m_sizes_a, .ref m_items_a, .ref m_moved_a]))] → va_S A H0 H locs → W p l e R s m args below meth c H locs cells slots Q (F0 m 145 ls ([])) := by
                      intro n
                      induction n with
                      | zero => intro x25 x26 z27 H locs ls hM; exact (sx_lp3_0 hM).elim
                      | succ n ih =>
                        intro x25 x26 z27 H locs ls hM hl hP hD hS
                        have hM : bdX5_readPersons_145 F m_tape m_typed k_193 (sx_lp3 (bdX5_readPersons_145 F m_tape m_typed k_193) n) x25 x26 z27 = some (r0, w_m_place, w_m_isFault, w_m_read) := hM
                        generalize sx_lp3 (bdX5_readPersons_145 F m_tape m_typed k_193) n = r_145 at hM ih
                        unfold bdX5_readPersons_145 at hM
                        refine lv_iload hx hb dX5_readPersons_145 (lv_at hl 4 rfl) ?_
                        obtain ⟨r28, hc29, hM⟩ := sx_c1_s hM
                        refine sx_iS (As := [.int x26]) (rest := []) (wc := []) (wr := [(m_tape_a, .inl (cI, 70, .inl m_tape)), (m_read_a, .inl (cI, 12, .inl z4)), (m_h, .inr (5, [.ref m_now_a, .ref m_tape_a, .int m_typed, .int z27, .int w14, .ref m_read_a, .ref m_heard_a, .ref m_undone_a, .int m_undos, .ref m_aside_a, .ref m_kept_a, .int m_keptUndos, .int m_isKept, .ref m_lanes_a, .ref m_sizes_a, .ref m_items_a, .ref m_moved_a]))]) (w1 := []) ⟨hx, hb, hml, hown, hts⟩ (mtX5_isThing l D cI cJ cS H.size x26 F r28 hc29) (va_cwS 1 hts gX5_readPersons_X5_isThing rfl rfl rfl (by decide +kernel) ⟨Nat.le_trans (by decide) hRf, Nat.le_trans (by decide) hRl⟩) hK hN hP hD hS hA [] [0, 1, 2] rfl (by decide) rfl (by decide) (by decide) rfl hl.1 rfl (Nat.le_of_ble_eq_true rfl) dX5_readPersons_147 hRc (fun H locs hP hD hS => ?_)
                        have hP : va_P D vwCl [(m_tape_a, .inl (cI, 70, .inl m_tape)), (m_read_a, .inl (cI, 12, .inl z4)), (m_h, .inr (5, [.ref m_now_a, .ref m_tape_a, .int m_typed, .int z27, .int w14, .ref m_read_a, .ref m_heard_a, .ref m_undone_a, .int m_undos, .ref m_aside_a, .ref m_kept_a, .int m_keptUndos, .int m_isKept, .ref m_lanes_a, .ref m_sizes_a, .ref m_items_a, .ref m_moved_a]))] H := hP
                        have hD : va_D A [(m_tape_a, .inl (cI, 70, .inl m_tape)), (m_read_a, .inl (cI, 12, .inl z4)), (m_h, .inr (5, [.ref m_now_a, .ref m_tape_a, .int m_typed, .int z27, .int w14, .ref m_read_a, .ref m_heard_a, .ref m_undone_a, .int m_undos, .ref m_aside_a, .ref m_kept_a, .int m_keptUndos, .int m_isKept, .ref m_lanes_a, .ref m_sizes_a, .ref m_items_a, .ref m_moved_a]))] := hD
                        refine lv_if_eq (tgt := 193) hx hb dX5_readPersons_150 (by decide) (fun c30 => ?_) (fun c30 => ?_)
                        · replace hM := sx_ift c30 hM
                          exact hk_193 x25 z27 _ _ _ hM (lv_sub hl [0, 1, 2, 3] rfl) (hP.sub [0, 1, 2] rfl) (hD.sub [0, 1, 2] (by decide) rfl) hS
                        · replace hM := sx_iff c30 hM
                          refine lv_iconst (v := 1) hx hb dX5_readPersons_153 (by decide) ?_
                          refine lv_iload hx hb dX5_readPersons_154 (lv_at hl 4 rfl) ?_
                          refine lv_ishl hx hb dX5_readPersons_156 ?_
                          refine lv_iload hx hb dX5_readPersons_157 (lv_at hl 3 rfl) ?_
                          refine lv_icmp_le (tgt := 193) hx hb dX5_readPersons_159 (by decide) (fun c31 => ?_) (fun c31 => ?_)
                          · replace hM := sx_ift c31 hM
                            exact hk_193 x25 z27 _ _ _ hM (lv_sub hl [0, 1, 2, 3] rfl) (hP.sub [0, 1, 2] rfl) (hD.sub [0, 1, 2] (by decide) rfl) hS
                          · replace hM := sx_iff c31 hM
                            refine lv_iload hx hb dX5_readPersons_162 (lv_at hl 3 rfl) ?_
                            refine lv_iconst (v := 1) hx hb dX5_readPersons_164 (by decide) ?_
                            refine lv_iload hx hb dX5_readPersons_165 (lv_at hl 4 rfl) ?_
                            refine lv_ishl hx hb dX5_readPersons_167 ?_
                            refine lv_ior hx hb dX5_readPersons_168 ?_
                            obtain ⟨v32, ev32, hM⟩ := sx_nm_s hM
                            refine W.eq (g2 := F0 m 169 ls (.int v32 :: [])) (by subst ev32; rfl) ?_
                            refine lv_istore (lv' := [(4, .int v32), (0, .ref m_h), (1, .int x1), (3, .int y11), (5, .int x26)]) hx hb dX5_readPersons_169 hl (by decide) rfl (fun ls hl => ?_)
                            refine lv_aload_n hx hb dX5_readPersons_171 rfl (lv_at hl 1 rfl) ?_
                            refine lv_dup hx hb dX5_readPersons_172 rfl ?_
                            refine va_get (D := D) (ci := 5) (v := .int z27) (C := RX5) (T := TX5) (N := 17) hx hb hts hin_X5 hown hK hP 2 rfl rfl 3 (by decide) hf_120 (fun _ h9 => h9) rfl dX5_readPersons_173 ?_
                            refine lv_iconst (v := 1) hx hb dX5_readPersons_176 (by decide) ?_
                            refine lv_iadd hx hb dX5_readPersons_177 ?_
                            refine va_put (D := D) (ci := 5) (v := .int (z27 + (1 : Int32))) (ty := .int) (C := RX5) (T := TX5) (N := 17) hx hb hts hin_X5 tyX5 tyX5_ok nmX5 hown hK hP hD hS 2 rfl rfl 3 (by decide) hf_120 (fun _ h9 => h9) rfl (tyX5_ok 3 (by decide)) rfl rfl (Nat.le_of_ble_eq_true rfl) dX5_readPersons_178 (fun H locs hP hD hS => ?_)
                            have hP : va_P D vwCl [(m_tape_a, .inl (cI, 70, .inl m_tape)), (m_read_a, .inl (cI, 12, .inl z4)), (m_h, .inr (5, [.ref m_now_a, .ref m_tape_a, .int m_typed, .int (z27 + (1 : Int32)), .int w14, .ref m_read_a, .ref m_heard_a, .ref m_undone_a, .int m_undos, .ref m_aside_a, .ref m_kept_a, .int m_keptUndos, .int m_isKept, .ref m_lanes_a, .ref m_sizes_a, .ref m_items_a, .ref m_moved_a]))] H := hP
                            have hD : va_D A [(m_tape_a, .inl (cI, 70, .inl m_tape)), (m_read_a, .inl (cI, 12, .inl z4)), (m_h, .inr (5, [.ref m_now_a, .ref m_tape_a, .int m_typed, .int (z27 + (1 : Int32)), .int w14, .ref m_read_a, .ref m_heard_a, .ref m_undone_a, .int m_undos, .ref m_aside_a, .ref m_kept_a, .int m_keptUndos, .int m_isKept, .ref m_lanes_a, .ref m_sizes_a, .ref m_items_a, .ref m_moved_a]))] := hD
                            refine lv_aload_n hx hb dX5_readPersons_181 rfl (lv_at hl 1 rfl) ?_
                            obtain ⟨r33, w34, hc35, hM⟩ := sx_c2_s hM
                            refine sx_iV (As := []) (rest := []) (wc := [(m_h, .inr (5, [.ref m_now_a, .ref m_tape_a, .int m_typed, .int (z27 + (1 : Int32)), .int w14, .ref m_read_a, .ref m_heard_a, .ref m_undone_a, .int m_undos, .ref m_aside_a, .ref m_kept_a, .int m_keptUndos, .int m_isKept, .ref m_lanes_a, .ref m_sizes_a, .ref m_items_a, .ref m_moved_a])), (m_tape_a, .inl (cI, 70, .inl m_tape))]) (wr := [(m_read_a, .inl (cI, 12, .inl z4))]) (w1 := [(m_h, .inr (5, [.ref m_now_a, .ref m_tape_a, .int m_typed, .int w34, .int w14, .ref m_read_a, .ref m_heard_a, .ref m_undone_a, .int m_undos, .ref m_aside_a, .ref m_kept_a, .int m_keptUndos, .int m_isKept, .ref m_lanes_a, .ref m_sizes_a, .ref m_items_a, .ref m_moved_a])), (m_tape_a, .inl (cI, 70, .inl m_tape))]) ⟨hx, hb, hml, hown, hts⟩ (mtX5_here l D cI cJ cS H.size m_h m_now_a m_tape_a m_read_a m_heard_a m_undone_a m_aside_a m_kept_a m_lanes_a m_sizes_a m_items_a m_moved_a m_tape m_typed (z27 + (1 : Int32)) w14 m_undos m_keptUndos m_isKept F r33 w34 hc35) (cwV 0 hts gX5_readPersons_X5_here rfl rfl rfl (by decide +kernel) ⟨Nat.le_trans (by decide) hRf, Nat.le_trans (by decide) hRl⟩) hK hN hP hD hS hA [2, 0] [1] rfl (by decide) rfl (by decide) (by decide) rfl rfl rfl rfl hl.1 rfl (Nat.le_of_ble_eq_true rfl) dX5_readPersons_182 hRc (fun H locs hP hD hS => ?_)
                            have hP : va_P D vwCl [(m_read_a, .inl (cI, 12, .inl z4)), (m_h, .inr (5, [.ref m_now_a, .ref m_tape_a, .int m_typed, .int w34, .int w14, .ref m_read_a, .ref m_heard_a, .ref m_undone_a, .int m_undos, .ref m_aside_a, .ref m_kept_a, .int m_keptUndos, .int m_isKept, .ref m_lanes_a, .ref m_sizes_a, .ref m_items_a, .ref m_moved_a])), (m_tape_a, .inl (cI, 70, .inl m_tape))] H := hP
                            have hD : va_D A [(m_read_a, .inl (cI, 12, .inl z4)), (m_h, .inr (5, [.ref m_now_a, .ref m_tape_a, .int m_typed, .int w34, .int w14, .ref m_read_a, .ref m_heard_a, .ref m_undone_a, .int m_undos, .ref m_aside_a, .ref m_kept_a, .int m_keptUndos, .int m_isKept, .ref m_lanes_a, .ref m_sizes_a, .ref m_items_a, .ref m_moved_a])), (m_tape_a, .inl (cI, 70, .inl m_tape))] := hD
                            refine lv_bipush (v := 48) hx hb dX5_readPersons_185 (by decide) ?_
                            refine lv_isub hx hb dX5_readPersons_187 ?_
                            obtain ⟨v36, ev36, hM⟩ := sx_nm_s hM
                            refine W.eq (g2 := F0 m 188 ls (.int v36 :: [])) (by subst ev36; rfl) ?_
                            refine lv_istore (lv' := [(5, .int v36), (4, .int v32), (0, .ref m_h), (1, .int x1), (3, .int y11)]) hx hb dX5_readPersons_188 hl (by decide) rfl (fun ls hl => ?_)
                            refine lv_goto (tgt := 145) hx hb dX5_readPersons_190 (by decide) ?_
                            exact ih v32 v36 w34 _ _ _ hM (lv_sub hl [2, 3, 4, 1, 0] rfl) (hP.sub [2, 0, 1] rfl) (hD.sub [2, 0, 1] (by decide) rfl) hS
                    exact lp_145 F (0 : Int32) y16 z17 _ _ _ hM (lv_sub hl [1, 2, 3, 4, 0] rfl) (hP.sub [0, 1, 2] rfl) (hD.sub [0, 1, 2] (by decide) rfl) hS
                  refine lv_if_eq (tgt := 136) hx hb dX5_readPersons_129 (by decide) (fun c37 => ?_) (fun c37 => ?_)
                  · replace hM := sx_ift c37 hM
                    refine lv_aload_n hx hb dX5_readPersons_136 rfl (lv_at hl 1 rfl) ?_
                    obtain ⟨r38, w39, hc40, hM⟩ := sx_c2_s hM
                    refine sx_iV (As := []) (rest := []) (wc := [(m_h, .inr (5, [.ref m_now_a, .ref m_tape_a, .int m_typed, .int w13, .int w14, .ref m_read_a, .ref m_heard_a, .ref m_undone_a, .int m_undos, .ref m_aside_a, .ref m_kept_a, .int m_keptUndos, .int m_isKept, .ref m_lanes_a, .ref m_sizes_a, .ref m_items_a, .ref m_moved_a])), (m_tape_a, .inl (cI, 70, .inl m_tape))]) (wr := [(m_read_a, .inl (cI, 12, .inl z4))]) (w1 := [(m_h, .inr (5, [.ref m_now_a, .ref m_tape_a, .int m_typed, .int w39, .int w14, .ref m_read_a, .ref m_heard_a, .ref m_undone_a, .int m_undos, .ref m_aside_a, .ref m_kept_a, .int m_keptUndos, .int m_isKept, .ref m_lanes_a, .ref m_sizes_a, .ref m_items_a, .ref m_moved_a])), (m_tape_a, .inl (cI, 70, .inl m_tape))]) ⟨hx, hb, hml, hown, hts⟩ (mtX5_here l D cI cJ cS H.size m_h m_now_a m_tape_a m_read_a m_heard_a m_undone_a m_aside_a m_kept_a m_lanes_a m_sizes_a m_items_a m_moved_a m_tape m_typed w13 w14 m_undos m_keptUndos m_isKept F r38 w39 hc40) (cwV 0 hts gX5_readPersons_X5_here rfl rfl rfl (by decide +kernel) ⟨Nat.le_trans (by decide) hRf, Nat.le_trans (by decide) hRl⟩) hK hN hP hD hS hA [2, 0] [1] rfl (by decide) rfl (by decide) (by decide) rfl rfl rfl rfl hl.1 rfl (Nat.le_of_ble_eq_true rfl) dX5_readPersons_137 hRc (fun H locs hP hD hS => ?_)
                    have hP : va_P D vwCl [(m_read_a, .inl (cI, 12, .inl z4)), (m_h, .inr (5, [.ref m_now_a, .ref m_tape_a, .int m_typed, .int w39, .int w14, .ref m_read_a, .ref m_heard_a, .ref m_undone_a, .int m_undos, .ref m_aside_a, .ref m_kept_a, .int m_keptUndos, .int m_isKept, .ref m_lanes_a, .ref m_sizes_a, .ref m_items_a, .ref m_moved_a])), (m_tape_a, .inl (cI, 70, .inl m_tape))] H := hP
                    have hD : va_D A [(m_read_a, .inl (cI, 12, .inl z4)), (m_h, .inr (5, [.ref m_now_a, .ref m_tape_a, .int m_typed, .int w39, .int w14, .ref m_read_a, .ref m_heard_a, .ref m_undone_a, .int m_undos, .ref m_aside_a, .ref m_kept_a, .int m_keptUndos, .int m_isKept, .ref m_lanes_a, .ref m_sizes_a, .ref m_items_a, .ref m_moved_a])), (m_tape_a, .inl (cI, 70, .inl m_tape))] := hD
                    refine lv_bipush (v := 48) hx hb dX5_readPersons_140 (by decide) ?_
                    refine lv_isub hx hb dX5_readPersons_142 ?_
                    exact hk_143 (r38 - (48 : Int32)) w39 _ _ _ hM (lv_sub hl [1, 2, 3, 0] rfl) (hP.sub [2, 0, 1] rfl) (hD.sub [2, 0, 1] (by decide) rfl) hS
                  · replace hM := sx_iff c37 hM
                    refine lv_iconst (v := -1) hx hb dX5_readPersons_132 (by decide) ?_
                    refine lv_goto (tgt := 143) hx hb dX5_readPersons_133 (by decide) ?_
                    exact hk_143 (-1 : Int32) w13 _ _ _ hM (lv_sub hl [1, 2, 3, 0] rfl) (hP.sub [0, 1, 2] rfl) (hD.sub [0, 1, 2] (by decide) rfl) hS
                refine lv_if_lt (tgt := 118) hx hb dX5_readPersons_111 (by decide) (fun c41 => ?_) (fun c41 => ?_)
                · replace hM := sx_ift c41 hM
                  refine lv_iconst (v := 0) hx hb dX5_readPersons_118 (by decide) ?_
                  exact hk_119 (0 : Int32) _ _ _ hM (lv_sub hl [1, 2, 0] rfl) (hP.sub [0, 1, 2] rfl) (hD.sub [0, 1, 2] (by decide) rfl) hS
                · replace hM := sx_iff c41 hM
                  refine lv_iconst (v := 1) hx hb dX5_readPersons_114 (by decide) ?_
                  refine lv_goto (tgt := 119) hx hb dX5_readPersons_115 (by decide) ?_
                  exact hk_119 (1 : Int32) _ _ _ hM (lv_sub hl [1, 2, 0] rfl) (hP.sub [0, 1, 2] rfl) (hD.sub [0, 1, 2] (by decide) rfl) hS
              refine lv_icmp_ne (tgt := 67) hx hb dX5_readPersons_60 (by decide) (fun c42 => ?_) (fun c42 => ?_)
              · replace hM := sx_iff c42 hM
                refine lv_iload_n hx hb dX5_readPersons_67 rfl (lv_at hl 0 rfl) ?_
                refine lv_bipush (v := 108) hx hb dX5_readPersons_68 (by decide) ?_
                refine lv_icmp_ne (tgt := 77) hx hb dX5_readPersons_70 (by decide) (fun c43 => ?_) (fun c43 => ?_)
                · replace hM := sx_iff c43 hM
                  refine lv_iload_n hx hb dX5_readPersons_77 rfl (lv_at hl 0 rfl) ?_
                  refine lv_bipush (v := 100) hx hb dX5_readPersons_78 (by decide) ?_
                  refine lv_icmp_ne (tgt := 87) hx hb dX5_readPersons_80 (by decide) (fun c44 => ?_) (fun c44 => ?_)
                  · replace hM := sx_iff c44 hM
                    refine lv_iload_n hx hb dX5_readPersons_87 rfl (lv_at hl 0 rfl) ?_
                    refine lv_bipush (v := 101) hx hb dX5_readPersons_88 (by decide) ?_
                    refine lv_icmp_ne (tgt := 97) hx hb dX5_readPersons_90 (by decide) (fun c45 => ?_) (fun c45 => ?_)
                    · replace hM := sx_iff c45 hM
                      refine lv_iload_n hx hb dX5_readPersons_97 rfl (lv_at hl 0 rfl) ?_
                      refine lv_bipush (v := 102) hx hb dX5_readPersons_98 (by decide) ?_
                      refine lv_icmp_ne (tgt := 107) hx hb dX5_readPersons_100 (by decide) (fun c46 => ?_) (fun c46 => ?_)
                      · replace hM := sx_iff c46 hM
                        refine lv_iconst (v := -1) hx hb dX5_readPersons_107 (by decide) ?_
                        exact hk_108 (-1 : Int32) _ _ _ hM (lv_sub hl [1, 2] rfl) (hP.sub [0, 1, 2] rfl) (hD.sub [0, 1, 2] (by decide) rfl) hS
                      · replace hM := sx_ift c46 hM
                        refine lv_iconst (v := 4) hx hb dX5_readPersons_103 (by decide) ?_
                        refine lv_goto (tgt := 108) hx hb dX5_readPersons_104 (by decide) ?_
                        exact hk_108 (4 : Int32) _ _ _ hM (lv_sub hl [1, 2] rfl) (hP.sub [0, 1, 2] rfl) (hD.sub [0, 1, 2] (by decide) rfl) hS
                    · replace hM := sx_ift c45 hM
                      refine lv_iconst (v := 3) hx hb dX5_readPersons_93 (by decide) ?_
                      refine lv_goto (tgt := 108) hx hb dX5_readPersons_94 (by decide) ?_
                      exact hk_108 (3 : Int32) _ _ _ hM (lv_sub hl [1, 2] rfl) (hP.sub [0, 1, 2] rfl) (hD.sub [0, 1, 2] (by decide) rfl) hS
                  · replace hM := sx_ift c44 hM
                    refine lv_iconst (v := 2) hx hb dX5_readPersons_83 (by decide) ?_
                    refine lv_goto (tgt := 108) hx hb dX5_readPersons_84 (by decide) ?_
                    exact hk_108 (2 : Int32) _ _ _ hM (lv_sub hl [1, 2] rfl) (hP.sub [0, 1, 2] rfl) (hD.sub [0, 1, 2] (by decide) rfl) hS
                · replace hM := sx_ift c43 hM
                  refine lv_iconst (v := 1) hx hb dX5_readPersons_73 (by decide) ?_
                  refine lv_goto (tgt := 108) hx hb dX5_readPersons_74 (by decide) ?_
                  exact hk_108 (1 : Int32) _ _ _ hM (lv_sub hl [1, 2] rfl) (hP.sub [0, 1, 2] rfl) (hD.sub [0, 1, 2] (by decide) rfl) hS
              · replace hM := sx_ift c42 hM
                refine lv_iconst (v := 0) hx hb dX5_readPersons_63 (by decide) ?_
                refine lv_goto (tgt := 108) hx hb dX5_readPersons_64 (by decide) ?_
                exact hk_108 (0 : Int32) _ _ _ hM (lv_sub hl [1, 2] rfl) (hP.sub [0, 1, 2] rfl) (hD.sub [0, 1, 2] (by decide) rfl) hS
            refine lv_if_eq (tgt := 52) hx hb dX5_readPersons_45 (by decide) (fun c47 => ?_) (fun c47 => ?_)
            · replace hM := sx_ift c47 hM
              refine lv_aload_n hx hb dX5_readPersons_52 rfl (lv_at hl 0 rfl) ?_
              obtain ⟨r48, w49, hc50, hM⟩ := sx_c2_s hM
              refine sx_iV (As := []) (rest := []) (wc := [(m_h, .inr (5, [.ref m_now_a, .ref m_tape_a, .int m_typed, .int z7, .int z8, .ref m_read_a, .ref m_heard_a, .ref m_undone_a, .int m_undos, .ref m_aside_a, .ref m_kept_a, .int m_keptUndos, .int m_isKept, .ref m_lanes_a, .ref m_sizes_a, .ref m_items_a, .ref m_moved_a])), (m_tape_a, .inl (cI, 70, .inl m_tape))]) (wr := [(m_read_a, .inl (cI, 12, .inl z4))]) (w1 := [(m_h, .inr (5, [.ref m_now_a, .ref m_tape_a, .int m_typed, .int w49, .int z8, .ref m_read_a, .ref m_heard_a, .ref m_undone_a, .int m_undos, .ref m_aside_a, .ref m_kept_a, .int m_keptUndos, .int m_isKept, .ref m_lanes_a, .ref m_sizes_a, .ref m_items_a, .ref m_moved_a])), (m_tape_a, .inl (cI, 70, .inl m_tape))]) ⟨hx, hb, hml, hown, hts⟩ (mtX5_here l D cI cJ cS H.size m_h m_now_a m_tape_a m_read_a m_heard_a m_undone_a m_aside_a m_kept_a m_lanes_a m_sizes_a m_items_a m_moved_a m_tape m_typed z7 z8 m_undos m_keptUndos m_isKept F r48 w49 hc50) (cwV 0 hts gX5_readPersons_X5_here rfl rfl rfl (by decide +kernel) ⟨Nat.le_trans (by decide) hRf, Nat.le_trans (by decide) hRl⟩) hK hN hP hD hS hA [0, 1] [2] rfl (by decide) rfl (by decide) (by decide) rfl rfl rfl rfl hl.1 rfl (Nat.le_of_ble_eq_true rfl) dX5_readPersons_53 hRc (fun H locs hP hD hS => ?_)
              have hP : va_P D vwCl [(m_read_a, .inl (cI, 12, .inl z4)), (m_h, .inr (5, [.ref m_now_a, .ref m_tape_a, .int m_typed, .int w49, .int z8, .ref m_read_a, .ref m_heard_a, .ref m_undone_a, .int m_undos, .ref m_aside_a, .ref m_kept_a, .int m_keptUndos, .int m_isKept, .ref m_lanes_a, .ref m_sizes_a, .ref m_items_a, .ref m_moved_a])), (m_tape_a, .inl (cI, 70, .inl m_tape))] H := hP
              have hD : va_D A [(m_read_a, .inl (cI, 12, .inl z4)), (m_h, .inr (5, [.ref m_now_a, .ref m_tape_a, .int m_typed, .int w49, .int z8, .ref m_read_a, .ref m_heard_a, .ref m_undone_a, .int m_undos, .ref m_aside_a, .ref m_kept_a, .int m_keptUndos, .int m_isKept, .ref m_lanes_a, .ref m_sizes_a, .ref m_items_a, .ref m_moved_a])), (m_tape_a, .inl (cI, 70, .inl m_tape))] := hD
              exact hk_56 r48 w49 _ _ _ hM (lv_sub hl [0, 1] rfl) (hP.sub [1, 2, 0] rfl) (hD.sub [1, 2, 0] (by decide) rfl) hS
            · replace hM := sx_iff c47 hM
              refine lv_iconst (v := 0) hx hb dX5_readPersons_48 (by decide) ?_
              refine lv_goto (tgt := 56) hx hb dX5_readPersons_49 (by decide) ?_
              exact hk_56 (0 : Int32) z7 _ _ _ hM (lv_sub hl [0, 1] rfl) (hP.sub [0, 1, 2] rfl) (hD.sub [0, 1, 2] (by decide) rfl) hS
          refine lv_if_le (tgt := 41) hx hb dX5_readPersons_23 (by decide) (fun c51 => ?_) (fun c51 => ?_)
          · replace hM := sx_ift c51 hM
            exact hk_41 z6 z3 _ _ _ hM (lv_sub hl [0, 1] rfl) (hP.sub [0, 1, 2] rfl) (hD.sub [0, 1, 2] (by decide) rfl) hS
          · replace hM := sx_iff c51 hM
            refine lv_aload_n hx hb dX5_readPersons_26 rfl (lv_at hl 0 rfl) ?_
            refine lv_iload_n hx hb dX5_readPersons_27 rfl (lv_at hl 1 rfl) ?_
            refine lv_bipush (v := 6) hx hb dX5_readPersons_28 (by decide) ?_
            refine lv_icmp_ge (tgt := 37) hx hb dX5_readPersons_30 (by decide) (fun c52 => ?_) (fun c52 => ?_)
            · replace hM := sx_ift c52 hM
              refine lv_iconst (v := 0) hx hb dX5_readPersons_37 (by decide) ?_
              obtain ⟨w53, w54, hc55, hM⟩ := sx_c2_s hM
              refine sx_vV (As := [.int (0 : Int32)]) (rest := []) (wc := [(m_h, .inr (5, [.ref m_now_a, .ref m_tape_a, .int m_typed, .int z6, .int z3, .ref m_read_a, .ref m_heard_a, .ref m_undone_a, .int m_undos, .ref m_aside_a, .ref m_kept_a, .int m_keptUndos, .int m_isKept, .ref m_lanes_a, .ref m_sizes_a, .ref m_items_a, .ref m_moved_a]))]) (wr := [(m_tape_a, .inl (cI, 70, .inl m_tape)), (m_read_a, .inl (cI, 12, .inl z4))]) (w1 := [(m_h, .inr (5, [.ref m_now_a, .ref m_tape_a, .int m_typed, .int w53, .int w54, .ref m_read_a, .ref m_heard_a, .ref m_undone_a, .int m_undos, .ref m_aside_a, .ref m_kept_a, .int m_keptUndos, .int m_isKept, .ref m_lanes_a, .ref m_sizes_a, .ref m_items_a, .ref m_moved_a]))]) ⟨hx, hb, hml, hown, hts⟩ (mtX5_must l D cI cJ cS H.size m_h m_now_a m_tape_a m_read_a m_heard_a m_undone_a m_aside_a m_kept_a m_lanes_a m_sizes_a m_items_a m_moved_a m_typed z6 z3 m_undos m_keptUndos m_isKept (0 : Int32) F w53 w54 hc55) (cwV 1 hts gX5_readPersons_X5_must rfl rfl rfl (by decide +kernel) ⟨Nat.le_trans (by decide) hRf, Nat.le_trans (by decide) hRl⟩) hK hN hP hD hS hA [0] [1, 2] rfl (by decide) rfl (by decide) (by decide) rfl rfl rfl rfl hl.1 rfl (Nat.le_of_ble_eq_true rfl) dX5_readPersons_38 hRc (fun H locs hP hD hS => ?_)
              have hP : va_P D vwCl [(m_tape_a, .inl (cI, 70, .inl m_tape)), (m_read_a, .inl (cI, 12, .inl z4)), (m_h, .inr (5, [.ref m_now_a, .ref m_tape_a, .int m_typed, .int w53, .int w54, .ref m_read_a, .ref m_heard_a, .ref m_undone_a, .int m_undos, .ref m_aside_a, .ref m_kept_a, .int m_keptUndos, .int m_isKept, .ref m_lanes_a, .ref m_sizes_a, .ref m_items_a, .ref m_moved_a]))] H := hP
              have hD : va_D A [(m_tape_a, .inl (cI, 70, .inl m_tape)), (m_read_a, .inl (cI, 12, .inl z4)), (m_h, .inr (5, [.ref m_now_a, .ref m_tape_a, .int m_typed, .int w53, .int w54, .ref m_read_a, .ref m_heard_a, .ref m_undone_a, .int m_undos, .ref m_aside_a, .ref m_kept_a, .int m_keptUndos, .int m_isKept, .ref m_lanes_a, .ref m_sizes_a, .ref m_items_a, .ref m_moved_a]))] := hD
              exact hk_41 w53 w54 _ _ _ hM (lv_sub hl [0, 1] rfl) (hP.sub [2, 0, 1] rfl) (hD.sub [2, 0, 1] (by decide) rfl) hS
            · replace hM := sx_iff c52 hM
              refine lv_iconst (v := 1) hx hb dX5_readPersons_33 (by decide) ?_
              refine lv_goto (tgt := 38) hx hb dX5_readPersons_34 (by decide) ?_
              obtain ⟨w56, w57, hc58, hM⟩ := sx_c2_s hM
              refine sx_vV (As := [.int (1 : Int32)]) (rest := []) (wc := [(m_h, .inr (5, [.ref m_now_a, .ref m_tape_a, .int m_typed, .int z6, .int z3, .ref m_read_a, .ref m_heard_a, .ref m_undone_a, .int m_undos, .ref m_aside_a, .ref m_kept_a, .int m_keptUndos, .int m_isKept, .ref m_lanes_a, .ref m_sizes_a, .ref m_items_a, .ref m_moved_a]))]) (wr := [(m_tape_a, .inl (cI, 70, .inl m_tape)), (m_read_a, .inl (cI, 12, .inl z4))]) (w1 := [(m_h, .inr (5, [.ref m_now_a, .ref m_tape_a, .int m_typed, .int w56, .int w57, .ref m_read_a, .ref m_heard_a, .ref m_undone_a, .int m_undos, .ref m_aside_a, .ref m_kept_a, .int m_keptUndos, .int m_isKept, .ref m_lanes_a, .ref m_sizes_a, .ref m_items_a, .ref m_moved_a]))]) ⟨hx, hb, hml, hown, hts⟩ (mtX5_must l D cI cJ cS H.size m_h m_now_a m_tape_a m_read_a m_heard_a m_undone_a m_aside_a m_kept_a m_lanes_a m_sizes_a m_items_a m_moved_a m_typed z6 z3 m_undos m_keptUndos m_isKept (1 : Int32) F w56 w57 hc58) (cwV 1 hts gX5_readPersons_X5_must rfl rfl rfl (by decide +kernel) ⟨Nat.le_trans (by decide) hRf, Nat.le_trans (by decide) hRl⟩) hK hN hP hD hS hA [0] [1, 2] rfl (by decide) rfl (by decide) (by decide) rfl rfl rfl rfl hl.1 rfl (Nat.le_of_ble_eq_true rfl) dX5_readPersons_38 hRc (fun H locs hP hD hS => ?_)
              have hP : va_P D vwCl [(m_tape_a, .inl (cI, 70, .inl m_tape)), (m_read_a, .inl (cI, 12, .inl z4)), (m_h, .inr (5, [.ref m_now_a, .ref m_tape_a, .int m_typed, .int w56, .int w57, .ref m_read_a, .ref m_heard_a, .ref m_undone_a, .int m_undos, .ref m_aside_a, .ref m_kept_a, .int m_keptUndos, .int m_isKept, .ref m_lanes_a, .ref m_sizes_a, .ref m_items_a, .ref m_moved_a]))] H := hP
              have hD : va_D A [(m_tape_a, .inl (cI, 70, .inl m_tape)), (m_read_a, .inl (cI, 12, .inl z4)), (m_h, .inr (5, [.ref m_now_a, .ref m_tape_a, .int m_typed, .int w56, .int w57, .ref m_read_a, .ref m_heard_a, .ref m_undone_a, .int m_undos, .ref m_aside_a, .ref m_kept_a, .int m_keptUndos, .int m_isKept, .ref m_lanes_a, .ref m_sizes_a, .ref m_items_a, .ref m_moved_a]))] := hD
              exact hk_41 w56 w57 _ _ _ hM (lv_sub hl [0, 1] rfl) (hP.sub [2, 0, 1] rfl) (hD.sub [2, 0, 1] (by decide) rfl) hS
        refine lv_if_eq (tgt := 22) hx hb dX5_readPersons_10 (by decide) (fun c59 => ?_) (fun c59 => ?_)
        · replace hM := sx_ift c59 hM
          exact hk_22 z2 _ _ _ hM (lv_sub hl [0, 1] rfl) (hP.sub [0, 1, 2] rfl) (hD.sub [0, 1, 2] (by decide) rfl) hS
        · replace hM := sx_iff c59 hM
          refine lv_aload_n hx hb dX5_readPersons_13 rfl (lv_at hl 0 rfl) ?_
          obtain ⟨r60, w61, hc62, hM⟩ := sx_c2_s hM
          refine sx_iV (As := []) (rest := []) (wc := [(m_h, .inr (5, [.ref m_now_a, .ref m_tape_a, .int m_typed, .int z2, .int z3, .ref m_read_a, .ref m_heard_a, .ref m_undone_a, .int m_undos, .ref m_aside_a, .ref m_kept_a, .int m_keptUndos, .int m_isKept, .ref m_lanes_a, .ref m_sizes_a, .ref m_items_a, .ref m_moved_a])), (m_tape_a, .inl (cI, 70, .inl m_tape))]) (wr := [(m_read_a, .inl (cI, 12, .inl z4))]) (w1 := [(m_h, .inr (5, [.ref m_now_a, .ref m_tape_a, .int m_typed, .int w61, .int z3, .ref m_read_a, .ref m_heard_a, .ref m_undone_a, .int m_undos, .ref m_aside_a, .ref m_kept_a, .int m_keptUndos, .int m_isKept, .ref m_lanes_a, .ref m_sizes_a, .ref m_items_a, .ref m_moved_a])), (m_tape_a, .inl (cI, 70, .inl m_tape))]) ⟨hx, hb, hml, hown, hts⟩ (mtX5_here l D cI cJ cS H.size m_h m_now_a m_tape_a m_read_a m_heard_a m_undone_a m_aside_a m_kept_a m_lanes_a m_sizes_a m_items_a m_moved_a m_tape m_typed z2 z3 m_undos m_keptUndos m_isKept F r60 w61 hc62) (cwV 0 hts gX5_readPersons_X5_here rfl rfl rfl (by decide +kernel) ⟨Nat.le_trans (by decide) hRf, Nat.le_trans (by decide) hRl⟩) hK hN hP hD hS hA [0, 1] [2] rfl (by decide) rfl (by decide) (by decide) rfl rfl rfl rfl hl.1 rfl (Nat.le_of_ble_eq_true rfl) dX5_readPersons_14 hRc (fun H locs hP hD hS => ?_)
          have hP : va_P D vwCl [(m_read_a, .inl (cI, 12, .inl z4)), (m_h, .inr (5, [.ref m_now_a, .ref m_tape_a, .int m_typed, .int w61, .int z3, .ref m_read_a, .ref m_heard_a, .ref m_undone_a, .int m_undos, .ref m_aside_a, .ref m_kept_a, .int m_keptUndos, .int m_isKept, .ref m_lanes_a, .ref m_sizes_a, .ref m_items_a, .ref m_moved_a])), (m_tape_a, .inl (cI, 70, .inl m_tape))] H := hP
          have hD : va_D A [(m_read_a, .inl (cI, 12, .inl z4)), (m_h, .inr (5, [.ref m_now_a, .ref m_tape_a, .int m_typed, .int w61, .int z3, .ref m_read_a, .ref m_heard_a, .ref m_undone_a, .int m_undos, .ref m_aside_a, .ref m_kept_a, .int m_keptUndos, .int m_isKept, .ref m_lanes_a, .ref m_sizes_a, .ref m_items_a, .ref m_moved_a])), (m_tape_a, .inl (cI, 70, .inl m_tape))] := hD
          refine lv_bipush (v := 44) hx hb dX5_readPersons_17 (by decide) ?_
          refine lv_icmp_ne (tgt := 227) hx hb dX5_readPersons_19 (by decide) (fun c63 => ?_) (fun c63 => ?_)
          · replace hM := sx_iff c63 hM
            refine lv_iload_n hx hb dX5_readPersons_227 rfl (lv_at hl 1 rfl) ?_
            obtain ⟨rfl, rfl, rfl, rfl⟩ := sx_o4 hM
            exact hret _ _ _ _ dX5_readPersons_228 (hP.sub [1, 2, 0] rfl) (hD.sub [1, 2, 0] (by decide) rfl) hS
          · replace hM := sx_ift c63 hM
            exact hk_22 w61 _ _ _ hM (lv_sub hl [0, 1] rfl) (hP.sub [1, 2, 0] rfl) (hD.sub [1, 2, 0] (by decide) rfl) hS
  exact lp_2 F (0 : Int32) m_place m_isFault m_read _ _ _ hM (lv_sub hl [1, 0] rfl) (hP.sub [0, 1, 2] rfl) (hD.sub [0, 1, 2] (by decide) rfl) hS
set_option maxHeartbeats 4000000 in
set_option maxRecDepth 100000 in
theorem mtX5_readPersons (l : Launch) (D : va_G) (cI cJ cS : ClassId) (sz : Nat) (m_h m_now_a m_tape_a m_read_a m_heard_a m_undone_a m_aside_a m_kept_a m_lanes_a m_sizes_a m_items_a m_moved_a : Nat) (m_tape : Nat → Int32) (m_typed : Int32) (m_place : Int32) (m_isFault : Int32) (m_read : Nat → Int32) (m_undos : Int32) (m_keptUndos : Int32) (m_isKept : Int32) (F : Nat) (r0 : Int32) (w_m_place : Int32) (w_m_isFault : Int32) (w_m_read : Nat → Int32) (hM : fnX5_readPersons F m_tape m_typed m_place m_isFault m_read = some (r0, w_m_place, w_m_isFault, w_m_read)) : sx_MI l yX5_readPersons wsX5_readPersons ({ frames := 2, cells := 0, slots := 0, locals := 45 }) D (sx_T cI cJ cS) sz [.ref m_h] [(m_h, .inr (5, [.ref m_now_a, .ref m_tape_a, .int m_typed, .int m_place, .int m_isFault, .ref m_read_a, .ref m_heard_a, .ref m_undone_a, .int m_undos, .ref m_aside_a, .ref m_kept_a, .int m_keptUndos, .int m_isKept, .ref m_lanes_a, .ref m_sizes_a, .ref m_items_a, .ref m_moved_a])), (m_tape_a, .inl (cI, 70, .inl m_tape)), (m_read_a, .inl (cI, 12, .inl m_read))] r0 [(m_h, .inr (5, [.ref m_now_a, .ref m_tape_a, .int m_typed, .int w_m_place, .int w_m_isFault, .ref m_read_a, .ref m_heard_a, .ref m_undone_a, .int m_undos, .ref m_aside_a, .ref m_kept_a, .int m_keptUndos, .int m_isKept, .ref m_lanes_a, .ref m_sizes_a, .ref m_items_a, .ref m_moved_a])), (m_tape_a, .inl (cI, 70, .inl m_tape)), (m_read_a, .inl (cI, 12, .inl w_m_read))] := by
  refine Met.ofW (cc := cX5_readPersons) (maxL := 6) (ret := (some .int)) (by decide) rfl ?_
  intro p e s m args below meth c s₁ B hml hv
  obtain ⟨rfl, hsz, hN, hP, hK, hD0⟩ := hv
  subst hsz
  have hl := lv_entry ([.ref m_h]) (n := 6) (Nat.le_of_ble_eq_true rfl)
  rw [lg_entry_eq]
  generalize (lg_sl ([.ref m_h]) ++ List.replicate (6 - (lg_sl ([.ref m_h])).length) Slot.unset).toArray = ls at hl ⊢
  exact kwX5_readPersons B.exec B.bytes hml (findClass_of_methodNamed B.named) (atoms_spec (ws := wsX5_readPersons) B.pre) hN hK (fun q h => Or.inr h) (by decide) (by decide) ⟨Nat.zero_le _, Nat.zero_le _⟩ m_h m_now_a m_tape_a m_read_a m_heard_a m_undone_a m_aside_a m_kept_a m_lanes_a m_sizes_a m_items_a m_moved_a m_tape m_typed m_place m_isFault m_read m_undos m_keptUndos m_isKept F r0 w_m_place w_m_isFault w_m_read hM _ _ _ hl hP hD0.self va_S.rf (fun H1 locs1 ls1 pc1 hd hP hD hS => W.iret (v := r0) B.exec B.bytes B.returns (fun t ht hW => ⟨⟨r0, (), rfl, rfl, by rw [ht]; exact hP, hD⟩, hS.F ht⟩) hS.2.2 hd)

def bdX5_court_179 (F : Nat) (x1_ : Int32) (x4_ : Int32) (m_read : Nat → Int32) (kf_233 : (Nat → Int32) → Option (Int32 × (Nat → Int32) × Int32 × Int32 × Int32 × (Nat → Int32) × Int32)) (r_ : Int32 → (Nat → Int32) → Option (Int32 × (Nat → Int32) × Int32 × Int32 × Int32 × (Nat → Int32) × Int32)) (x5_ : Int32) (m_now : Nat → Int32) : Option (Int32 × (Nat → Int32) × Int32 × Int32 × Int32 × (Nat → Int32) × Int32) :=
  (if (8 : Int32) ≤ x5_ then (kf_233 m_now) else sx_gd (sx_ib (((2 : Int32) * x4_) + (1 : Int32)) 12) (sx_lt (fun (y42 : Int32) => sx_gd (sx_ib (((17 : Int32) + ((8 : Int32) * x4_)) + x5_) 65) (sx_nm (x5_ + (1 : Int32)) (fun (v44 : Int32) => (r_ v44 (upd m_now ((((17 : Int32) + ((8 : Int32) * x4_)) + x5_)).toNatClampNeg y42))))) (fun (k_226 : Int32 → Option (Int32 × (Nat → Int32) × Int32 × Int32 × Int32 × (Nat → Int32) × Int32)) => (if (((m_read ((((2 : Int32) * x4_) + (1 : Int32))).toNatClampNeg) >>> (x5_ &&& 31)) &&& (1 : Int32)) = (1 : Int32) then (k_226 x1_) else (k_226 (-1 : Int32))))))
def bdX5_court_157 (F : Nat) (x1_ : Int32) (x3_ : Int32) (m_typed : Int32) (m_place : Int32) (m_isFault : Int32) (m_read : Nat → Int32) (r_ : Int32 → (Nat → Int32) → Int32 → Option (Int32 × (Nat → Int32) × Int32 × Int32 × Int32 × (Nat → Int32) × Int32)) (x4_ : Int32) (m_now : Nat → Int32) (m_undos : Int32) : Option (Int32 × (Nat → Int32) × Int32 × Int32 × Int32 × (Nat → Int32) × Int32) :=
  (if x3_ ≤ x4_ then (some (x3_, m_now, m_typed, m_place, m_isFault, m_read, m_undos)) else sx_gd (sx_ib ((2 : Int32) * x4_) 12) (sx_c2 (fnX5_comes F m_now m_undos (m_read (((2 : Int32) * x4_)).toNatClampNeg)) (fun (w33 : Nat → Int32) (w34 : Int32) => sx_lt (fun (z36 : Nat → Int32) => sx_nm (x4_ + (1 : Int32)) (fun (v37 : Int32) => (r_ v37 z36 w34))) (fun (k_233 : (Nat → Int32) → Option (Int32 × (Nat → Int32) × Int32 × Int32 × Int32 × (Nat → Int32) × Int32)) => sx_lp2 (bdX5_court_179 F x1_ x4_ m_read k_233) F (0 : Int32) w33))))
def fnX5_court (F : Nat) (m_now : Nat → Int32) (m_tape : Nat → Int32) (m_typed : Int32) (m_place : Int32) (m_isFault : Int32) (m_read : Nat → Int32) (m_undos : Int32) : Option (Int32 × (Nat → Int32) × Int32 × Int32 × Int32 × (Nat → Int32) × Int32) :=
  sx_c3 (fnX5_number F m_tape m_typed (0 : Int32) (0 : Int32) (1 : Int32) (9 : Int32) (1 : Int32)) (fun (r1 : Int32) (w2 : Int32) (w3 : Int32) => sx_lt (fun (y5 : Int32) (z6 : Int32) => sx_c2 (fnX5_must F z6 w3 y5) (fun (w7 : Int32) (w8 : Int32) => sx_c3 (fnX5_number F m_tape m_typed w7 w8 (2 : Int32) (30 : Int32) (2 : Int32)) (fun (r10 : Int32) (w11 : Int32) (w12 : Int32) => sx_lt (fun (y14 : Int32) (z15 : Int32) => sx_c2 (fnX5_must F z15 w12 y14) (fun (w16 : Int32) (w17 : Int32) => sx_c4 (fnX5_readPersons F m_tape m_typed w16 w17 m_read) (fun (r19 : Int32) (w20 : Int32) (w21 : Int32) (w22 : Nat → Int32) => sx_lt (fun (y24 : Int32) (z25 : Int32) => sx_gd (sx_bl y24) ((if y24 = 0 then sx_lp3 (bdX5_court_157 F r1 r19 (0 : Int32) z25 y24 w22) F (0 : Int32) (upd (upd (upd (upd m_now ((0 : Int32)).toNatClampNeg (0 : Int32)) ((1 : Int32)).toNatClampNeg (0 : Int32)) ((2 : Int32)).toNatClampNeg r1) ((3 : Int32)).toNatClampNeg r10) m_undos else (some (((-20 : Int32) - z25), m_now, (0 : Int32), z25, y24, w22, m_undos))))) (fun (k_103 : Int32 → Int32 → Option (Int32 × (Nat → Int32) × Int32 × Int32 × Int32 × (Nat → Int32) × Int32)) => (if w21 = 0 then sx_c2 (fnX5_here F m_tape m_typed w20) (fun (r47 : Int32) (w48 : Int32) => (if r47 = 0 then (k_103 (0 : Int32) w48) else (k_103 (1 : Int32) w48))) else (k_103 (1 : Int32) w20)))))) (fun (k_75 : Int32 → Int32 → Option (Int32 × (Nat → Int32) × Int32 × Int32 × Int32 × (Nat → Int32) × Int32)) => (if w12 = 0 then sx_c2 (fnX5_here F m_tape m_typed w11) (fun (r52 : Int32) (w53 : Int32) => (if r52 = (59 : Int32) then (k_75 (1 : Int32) w53) else (k_75 (0 : Int32) w53))) else (k_75 (0 : Int32) w11)))))) (fun (k_41 : Int32 → Int32 → Option (Int32 × (Nat → Int32) × Int32 × Int32 × Int32 × (Nat → Int32) × Int32)) => (if w3 = 0 then sx_c2 (fnX5_here F m_tape m_typed w2) (fun (r57 : Int32) (w58 : Int32) => (if r57 = (47 : Int32) then (k_41 (1 : Int32) w58) else (k_41 (0 : Int32) w58))) else (k_41 (0 : Int32) w2))))
set_option maxHeartbeats 4000000 in
set_option maxRecDepth 100000 in
theorem kwX5_court {p : Program} {l : Launch} {e : Env} {R : Room} {s : State} {m : MethodId} {args : Array Value} {below : List Frame} {meth : Method} {c : Code} {cells slots : Nat} {Q : State → Prop} {A : Nat → Prop} {H0 : Heap} {D : va_G} {cI cJ cS : ClassId} (hx : p.tables.exec = Jvm.exec) (hb : c.code = cX5_court) (hml : c.maxLocals = 6) (hown : s.vm.findClass RX5 = some m.cls) (hts : ∀ w ∈ wsX5_court, w.before args s = true) (hN : sx_N s) (hK : va_K D vwCl (sx_T cI cJ cS) s) (hA : ∀ q, H0.size ≤ q → A q) (hRf : 3 ≤ R.frames) (hRl : 70 ≤ R.locals) (hRc : cells ≤ R.cells ∧ slots ≤ R.slots) (m_h m_now_a m_tape_a m_read_a m_heard_a m_undone_a m_aside_a m_kept_a m_lanes_a m_sizes_a m_items_a m_moved_a : Nat) (m_now : Nat → Int32) (m_tape : Nat → Int32) (m_typed : Int32) (m_place : Int32) (m_isFault : Int32) (m_read : Nat → Int32) (m_undos : Int32) (m_keptUndos : Int32) (m_isKept : Int32) (F : Nat) (r0 : Int32) (w_m_now : Nat → Int32) (w_m_typed : Int32) (w_m_place : Int32) (w_m_isFault : Int32) (w_m_read : Nat → Int32) (w_m_undos : Int32) (hM : fnX5_court F m_now m_tape m_typed m_place m_isFault m_read m_undos = some (r0, w_m_now, w_m_typed, w_m_place, w_m_isFault, w_m_read, w_m_undos)) (H : Heap) (locs : List Loc) (ls : Array Slot) (hl : lv_has ls 6 [(0, .ref m_h)]) (hP : va_P D vwCl [(m_h, .inr (5, [.ref m_now_a, .ref m_tape_a, .int m_typed, .int m_place, .int m_isFault, .ref m_read_a, .ref m_heard_a, .ref m_undone_a, .int m_undos, .ref m_aside_a, .ref m_kept_a, .int m_keptUndos, .int m_isKept, .ref m_lanes_a, .ref m_sizes_a, .ref m_items_a, .ref m_moved_a])), (m_now_a, .inl (cI, 65, .inl m_now)), (m_tape_a, .inl (cI, 70, .inl m_tape)), (m_read_a, .inl (cI, 12, .inl m_read))] H) (hD : va_D A [(m_h, .inr (5, [.ref m_now_a, .ref m_tape_a, .int m_typed, .int m_place, .int m_isFault, .ref m_read_a, .ref m_heard_a, .ref m_undone_a, .int m_undos, .ref m_aside_a, .ref m_kept_a, .int m_keptUndos, .int m_isKept, .ref m_lanes_a, .ref m_sizes_a, .ref m_items_a, .ref m_moved_a])), (m_now_a, .inl (cI, 65, .inl m_now)), (m_tape_a, .inl (cI, 70, .inl m_tape)), (m_read_a, .inl (cI, 12, .inl m_read))]) (hS : va_S A H0 H locs)
    (hret : ∀ (H1 : Heap) (locs1 : List Loc) (ls1 : Array Slot) (pc1 : Nat), decode cX5_court pc1 = .ok (.ireturn, 1) → va_P D vwCl [(m_h, .inr (5, [.ref m_now_a, .ref m_tape_a, .int w_m_typed, .int w_m_place, .int w_m_isFault, .ref m_read_a, .ref m_heard_a, .ref m_undone_a, .int w_m_undos, .ref m_aside_a, .ref m_kept_a, .int m_keptUndos, .int m_isKept, .ref m_lanes_a, .ref m_sizes_a, .ref m_items_a, .ref m_moved_a])), (m_now_a, .inl (cI, 65, .inl w_m_now)), (m_tape_a, .inl (cI, 70, .inl m_tape)), (m_read_a, .inl (cI, 12, .inl w_m_read))] H1 → va_D A [(m_h, .inr (5, [.ref m_now_a, .ref m_tape_a, .int w_m_typed, .int w_m_place, .int w_m_isFault, .ref m_read_a, .ref m_heard_a, .ref m_undone_a, .int w_m_undos, .ref m_aside_a, .ref m_kept_a, .int m_keptUndos, .int m_isKept, .ref m_lanes_a, .ref m_sizes_a, .ref m_items_a, .ref m_moved_a])), (m_now_a, .inl (cI, 65, .inl w_m_now)), (m_tape_a, .inl (cI, 70, .inl m_tape)), (m_read_a, .inl (cI, 12, .inl w_m_read))] → va_S A H0 H1 locs1 → W p l e R s m args below meth c H1 locs1 cells slots Q (F0 m pc1 ls1 [.int r0])) : W p l e R s m args below meth c H locs cells slots Q (F0 m 0 ls []) := by
  have hf_7 := hts (.fieldLink RX5 7 "SealedLipsModel" "now" "[I") (by decide +kernel)
  have hf_16 := hts (.fieldLink RX5 16 "SealedLipsModel" "read" "[I") (by decide +kernel)
  have hf_117 := hts (.fieldLink RX5 117 "SealedLipsModel" "typed" "I") (by decide +kernel)
  have hf_120 := hts (.fieldLink RX5 120 "SealedLipsModel" "place" "I") (by decide +kernel)
  have hf_123 := hts (.fieldLink RX5 123 "SealedLipsModel" "isFault" "Z") (by decide +kernel)
  have hin_X5 : ∀ w ∈ wsX50, w ∈ wsX5_court := by decide +kernel
  unfold fnX5_court at hM
  refine lv_aload_n hx hb dX5_court_0 rfl (lv_at hl 0 rfl) ?_
  refine lv_iconst (v := 0) hx hb dX5_court_1 (by decide) ?_
  refine va_put (D := D) (ci := 5) (v := .int (0 : Int32)) (ty := .int) (C := RX5) (T := TX5) (N := 17) hx hb hts hin_X5 tyX5 tyX5_ok nmX5 hown hK hP hD hS 0 rfl rfl 3 (by decide) hf_120 (fun _ h9 => h9) rfl (tyX5_ok 3 (by decide)) rfl rfl (Nat.le_of_ble_eq_true rfl) dX5_court_2 (fun H locs hP hD hS => ?_)
  have hP : va_P D vwCl [(m_h, .inr (5, [.ref m_now_a, .ref m_tape_a, .int m_typed, .int (0 : Int32), .int m_isFault, .ref m_read_a, .ref m_heard_a, .ref m_undone_a, .int m_undos, .ref m_aside_a, .ref m_kept_a, .int m_keptUndos, .int m_isKept, .ref m_lanes_a, .ref m_sizes_a, .ref m_items_a, .ref m_moved_a])), (m_now_a, .inl (cI, 65, .inl m_now)), (m_tape_a, .inl (cI, 70, .inl m_tape)), (m_read_a, .inl (cI, 12, .inl m_read))] H := hP
  have hD : va_D A [(m_h, .inr (5, [.ref m_now_a, .ref m_tape_a, .int m_typed, .int (0 : Int32), .int m_isFault, .ref m_read_a, .ref m_heard_a, .ref m_undone_a, .int m_undos, .ref m_aside_a, .ref m_kept_a, .int m_keptUndos, .int m_isKept, .ref m_lanes_a, .ref m_sizes_a, .ref m_items_a, .ref m_moved_a])), (m_now_a, .inl (cI, 65, .inl m_now)), (m_tape_a, .inl (cI, 70, .inl m_tape)), (m_read_a, .inl (cI, 12, .inl m_read))] := hD
  refine lv_aload_n hx hb dX5_court_5 rfl (lv_at hl 0 rfl) ?_
  refine lv_iconst (v := 0) hx hb dX5_court_6 (by decide) ?_
  refine va_put (D := D) (ci := 5) (v := .int (0 : Int32)) (ty := .boolean) (C := RX5) (T := TX5) (N := 17) hx hb hts hin_X5 tyX5 tyX5_ok nmX5 hown hK hP hD hS 0 rfl rfl 4 (by decide) hf_123 (fun _ h9 => h9) rfl (tyX5_ok 4 (by decide)) rfl rfl (Nat.le_of_ble_eq_true rfl) dX5_court_7 (fun H locs hP hD hS => ?_)
  have hP : va_P D vwCl [(m_h, .inr (5, [.ref m_now_a, .ref m_tape_a, .int m_typed, .int (0 : Int32), .int (0 : Int32), .ref m_read_a, .ref m_heard_a, .ref m_undone_a, .int m_undos, .ref m_aside_a, .ref m_kept_a, .int m_keptUndos, .int m_isKept, .ref m_lanes_a, .ref m_sizes_a, .ref m_items_a, .ref m_moved_a])), (m_now_a, .inl (cI, 65, .inl m_now)), (m_tape_a, .inl (cI, 70, .inl m_tape)), (m_read_a, .inl (cI, 12, .inl m_read))] H := hP
  have hD : va_D A [(m_h, .inr (5, [.ref m_now_a, .ref m_tape_a, .int m_typed, .int (0 : Int32), .int (0 : Int32), .ref m_read_a, .ref m_heard_a, .ref m_undone_a, .int m_undos, .ref m_aside_a, .ref m_kept_a, .int m_keptUndos, .int m_isKept, .ref m_lanes_a, .ref m_sizes_a, .ref m_items_a, .ref m_moved_a])), (m_now_a, .inl (cI, 65, .inl m_now)), (m_tape_a, .inl (cI, 70, .inl m_tape)), (m_read_a, .inl (cI, 12, .inl m_read))] := hD
  refine lv_aload_n hx hb dX5_court_10 rfl (lv_at hl 0 rfl) ?_
  refine lv_iconst (v := 1) hx hb dX5_court_11 (by decide) ?_
  refine lv_bipush (v := 9) hx hb dX5_court_12 (by decide) ?_
  refine lv_iconst (v := 1) hx hb dX5_court_14 (by decide) ?_
  obtain ⟨r1, w2, w3, hc4, hM⟩ := sx_c3_s hM
  refine sx_iV (As := [.int (1 : Int32), .int (9 : Int32), .int (1 : Int32)]) (rest := []) (wc := [(m_h, .inr (5, [.ref m_now_a, .ref m_tape_a, .int m_typed, .int (0 : Int32), .int (0 : Int32), .ref m_read_a, .ref m_heard_a, .ref m_undone_a, .int m_undos, .ref m_aside_a, .ref m_kept_a, .int m_keptUndos, .int m_isKept, .ref m_lanes_a, .ref m_sizes_a, .ref m_items_a, .ref m_moved_a])), (m_tape_a, .inl (cI, 70, .inl m_tape))]) (wr := [(m_now_a, .inl (cI, 65, .inl m_now)), (m_read_a, .inl (cI, 12, .inl m_read))]) (w1 := [(m_h, .inr (5, [.ref m_now_a, .ref m_tape_a, .int m_typed, .int w2, .int w3, .ref m_read_a, .ref m_heard_a, .ref m_undone_a, .int m_undos, .ref m_aside_a, .ref m_kept_a, .int m_keptUndos, .int m_isKept, .ref m_lanes_a, .ref m_sizes_a, .ref m_items_a, .ref m_moved_a])), (m_tape_a, .inl (cI, 70, .inl m_tape))]) ⟨hx, hb, hml, hown, hts⟩ (mtX5_number l D cI cJ cS H.size m_h m_now_a m_tape_a m_read_a m_heard_a m_undone_a m_aside_a m_kept_a m_lanes_a m_sizes_a m_items_a m_moved_a m_tape m_typed (0 : Int32) (0 : Int32) m_undos m_keptUndos m_isKept (1 : Int32) (9 : Int32) (1 : Int32) F r1 w2 w3 hc4) (cwV 3 hts gX5_court_X5_number rfl rfl rfl (by decide +kernel) ⟨Nat.le_trans (by decide) hRf, Nat.le_trans (by decide) hRl⟩) hK hN hP hD hS hA [0, 2] [1, 3] rfl (by decide) rfl (by decide) (by decide) rfl rfl rfl rfl hl.1 rfl (Nat.le_of_ble_eq_true rfl) dX5_court_15 hRc (fun H locs hP hD hS => ?_)
  have hP : va_P D vwCl [(m_now_a, .inl (cI, 65, .inl m_now)), (m_read_a, .inl (cI, 12, .inl m_read)), (m_h, .inr (5, [.ref m_now_a, .ref m_tape_a, .int m_typed, .int w2, .int w3, .ref m_read_a, .ref m_heard_a, .ref m_undone_a, .int m_undos, .ref m_aside_a, .ref m_kept_a, .int m_keptUndos, .int m_isKept, .ref m_lanes_a, .ref m_sizes_a, .ref m_items_a, .ref m_moved_a])), (m_tape_a, .inl (cI, 70, .inl m_tape))] H := hP
  have hD : va_D A [(m_now_a, .inl (cI, 65, .inl m_now)), (m_read_a, .inl (cI, 12, .inl m_read)), (m_h, .inr (5, [.ref m_now_a, .ref m_tape_a, .int m_typed, .int w2, .int w3, .ref m_read_a, .ref m_heard_a, .ref m_undone_a, .int m_undos, .ref m_aside_a, .ref m_kept_a, .int m_keptUndos, .int m_isKept, .ref m_lanes_a, .ref m_sizes_a, .ref m_items_a, .ref m_moved_a])), (m_tape_a, .inl (cI, 70, .inl m_tape))] := hD
  refine lv_istore_n (lv' := [(1, .int r1), (0, .ref m_h)]) hx hb dX5_court_18 rfl hl (by decide) rfl (fun ls hl => ?_)
  refine lv_aload_n hx hb dX5_court_19 rfl (lv_at hl 1 rfl) ?_
  refine lv_aload_n hx hb dX5_court_20 rfl (lv_at hl 1 rfl) ?_
  refine va_get (D := D) (ci := 5) (v := .int w3) (C := RX5) (T := TX5) (N := 17) hx hb hts hin_X5 hown hK hP 2 rfl rfl 4 (by decide) hf_123 (fun _ h9 => h9) rfl dX5_court_21 ?_
  obtain ⟨k_41, ek_41, hM⟩ := sx_lt_s hM
  have hk_41 : ∀ (y5 : Int32) (z6 : Int32) (H : Heap) (locs : List Loc) (ls : Array Slot), k_41 y5 z6 = some (r0, w_m_now, w_m_typed, w_m_place, w_m_isFault, w_m_read, w_m_undos) → lv_has ls 6 [(0, .ref m_h), (1, .int r1)] → va_P D vwCl [(m_now_a, .inl (cI, 65, .inl m_now)), (m_read_a, .inl (cI, 12, .inl m_read)), (m_h, .inr (5, [.ref m_now_a, .ref m_tape_a, .int m_typed, .int z6, .int w3, .ref m_read_a, .ref m_heard_a, .ref m_undone_a, .int m_undos, .ref m_aside_a, .ref m_kept_a, .int m_keptUndos, .int m_isKept, .ref m_lanes_a, .ref m_sizes_a, .ref m_items_a, .ref m_moved_a])), (m_tape_a, .inl (cI, 70, .inl m_tape))] H → va_D A [(m_now_a, .inl (cI, 65, .inl m_now)), (m_read_a, .inl (cI, 12, .inl m_read)), (m_h, .inr (5, [.ref m_now_a, .ref m_tape_a, .int m_typed, .int z6, .int w3, .ref m_read_a, .ref m_heard_a, .ref m_undone_a, .int m_undos, .ref m_aside_a, .ref m_kept_a, .int m_keptUndos, .int m_isKept, .ref m_lanes_a, .ref m_sizes_a, .ref m_items_a, .ref m_moved_a])), (m_tape_a, .inl (cI, 70, .inl m_tape))] → va_S A H0 H locs → W p l e R s m args below meth c H locs cells slots Q (F0 m 41 ls (.int y5 :: .ref m_h :: [])) := by
    intro y5 z6 H locs ls hM hl hP hD hS
    rw [ek_41] at hM
    obtain ⟨w7, w8, hc9, hM⟩ := sx_c2_s hM
    refine sx_vV (As := [.int y5]) (rest := []) (wc := [(m_h, .inr (5, [.ref m_now_a, .ref m_tape_a, .int m_typed, .int z6, .int w3, .ref m_read_a, .ref m_heard_a, .ref m_undone_a, .int m_undos, .ref m_aside_a, .ref m_kept_a, .int m_keptUndos, .int m_isKept, .ref m_lanes_a, .ref m_sizes_a, .ref m_items_a, .ref m_moved_a]))]) (wr := [(m_now_a, .inl (cI, 65, .inl m_now)), (m_read_a, .inl (cI, 12, .inl m_read)), (m_tape_a, .inl (cI, 70, .inl m_tape))]) (w1 := [(m_h, .inr (5, [.ref m_now_a, .ref m_tape_a, .int m_typed, .int w7, .int w8, .ref m_read_a, .ref m_heard_a, .ref m_undone_a, .int m_undos, .ref m_aside_a, .ref m_kept_a, .int m_keptUndos, .int m_isKept, .ref m_lanes_a, .ref m_sizes_a, .ref m_items_a, .ref m_moved_a]))]) ⟨hx, hb, hml, hown, hts⟩ (mtX5_must l D cI cJ cS H.size m_h m_now_a m_tape_a m_read_a m_heard_a m_undone_a m_aside_a m_kept_a m_lanes_a m_sizes_a m_items_a m_moved_a m_typed z6 w3 m_undos m_keptUndos m_isKept y5 F w7 w8 hc9) (cwV 1 hts gX5_court_X5_must rfl rfl rfl (by decide +kernel) ⟨Nat.le_trans (by decide) hRf, Nat.le_trans (by decide) hRl⟩) hK hN hP hD hS hA [2] [0, 1, 3] rfl (by decide) rfl (by decide) (by decide) rfl rfl rfl rfl hl.1 rfl (Nat.le_of_ble_eq_true rfl) dX5_court_41 hRc (fun H locs hP hD hS => ?_)
    have hP : va_P D vwCl [(m_now_a, .inl (cI, 65, .inl m_now)), (m_read_a, .inl (cI, 12, .inl m_read)), (m_tape_a, .inl (cI, 70, .inl m_tape)), (m_h, .inr (5, [.ref m_now_a, .ref m_tape_a, .int m_typed, .int w7, .int w8, .ref m_read_a, .ref m_heard_a, .ref m_undone_a, .int m_undos, .ref m_aside_a, .ref m_kept_a, .int m_keptUndos, .int m_isKept, .ref m_lanes_a, .ref m_sizes_a, .ref m_items_a, .ref m_moved_a]))] H := hP
    have hD : va_D A [(m_now_a, .inl (cI, 65, .inl m_now)), (m_read_a, .inl (cI, 12, .inl m_read)), (m_tape_a, .inl (cI, 70, .inl m_tape)), (m_h, .inr (5, [.ref m_now_a, .ref m_tape_a, .int m_typed, .int w7, .int w8, .ref m_read_a, .ref m_heard_a, .ref m_undone_a, .int m_undos, .ref m_aside_a, .ref m_kept_a, .int m_keptUndos, .int m_isKept, .ref m_lanes_a, .ref m_sizes_a, .ref m_items_a, .ref m_moved_a]))] := hD
    refine lv_aload_n hx hb dX5_court_44 rfl (lv_at hl 0 rfl) ?_
    refine lv_iconst (v := 2) hx hb dX5_court_45 (by decide) ?_
    refine lv_bipush (v := 30) hx hb dX5_court_46 (by decide) ?_
    refine lv_iconst (v := 2) hx hb dX5_court_48 (by decide) ?_
    obtain ⟨r10, w11, w12, hc13, hM⟩ := sx_c3_s hM
    refine sx_iV (As := [.int (2 : Int32), .int (30 : Int32), .int (2 : Int32)]) (rest := []) (wc := [(m_h, .inr (5, [.ref m_now_a, .ref m_tape_a, .int m_typed, .int w7, .int w8, .ref m_read_a, .ref m_heard_a, .ref m_undone_a, .int m_undos, .ref m_aside_a, .ref m_kept_a, .int m_keptUndos, .int m_isKept, .ref m_lanes_a, .ref m_sizes_a, .ref m_items_a, .ref m_moved_a])), (m_tape_a, .inl (cI, 70, .inl m_tape))]) (wr := [(m_now_a, .inl (cI, 65, .inl m_now)), (m_read_a, .inl (cI, 12, .inl m_read))]) (w1 := [(m_h, .inr (5, [.ref m_now_a, .ref m_tape_a, .int m_typed, .int w11, .int w12, .ref m_read_a, .ref m_heard_a, .ref m_undone_a, .int m_undos, .ref m_aside_a, .ref m_kept_a, .int m_keptUndos, .int m_isKept, .ref m_lanes_a, .ref m_sizes_a, .ref m_items_a, .ref m_moved_a])), (m_tape_a, .inl (cI, 70, .inl m_tape))]) ⟨hx, hb, hml, hown, hts⟩ (mtX5_number l D cI cJ cS H.size m_h m_now_a m_tape_a m_read_a m_heard_a m_undone_a m_aside_a m_kept_a m_lanes_a m_sizes_a m_items_a m_moved_a m_tape m_typed w7 w8 m_undos m_keptUndos m_isKept (2 : Int32) (30 : Int32) (2 : Int32) F r10 w11 w12 hc13) (cwV 3 hts gX5_court_X5_number rfl rfl rfl (by decide +kernel) ⟨Nat.le_trans (by decide) hRf, Nat.le_trans (by decide) hRl⟩) hK hN hP hD hS hA [3, 2] [0, 1] rfl (by decide) rfl (by decide) (by decide) rfl rfl rfl rfl hl.1 rfl (Nat.le_of_ble_eq_true rfl) dX5_court_49 hRc (fun H locs hP hD hS => ?_)
    have hP : va_P D vwCl [(m_now_a, .inl (cI, 65, .inl m_now)), (m_read_a, .inl (cI, 12, .inl m_read)), (m_h, .inr (5, [.ref m_now_a, .ref m_tape_a, .int m_typed, .int w11, .int w12, .ref m_read_a, .ref m_heard_a, .ref m_undone_a, .int m_undos, .ref m_aside_a, .ref m_kept_a, .int m_keptUndos, .int m_isKept, .ref m_lanes_a, .ref m_sizes_a, .ref m_items_a, .ref m_moved_a])), (m_tape_a, .inl (cI, 70, .inl m_tape))] H := hP
    have hD : va_D A [(m_now_a, .inl (cI, 65, .inl m_now)), (m_read_a, .inl (cI, 12, .inl m_read)), (m_h, .inr (5, [.ref m_now_a, .ref m_tape_a, .int m_typed, .int w11, .int w12, .ref m_read_a, .ref m_heard_a, .ref m_undone_a, .int m_undos, .ref m_aside_a, .ref m_kept_a, .int m_keptUndos, .int m_isKept, .ref m_lanes_a, .ref m_sizes_a, .ref m_items_a, .ref m_moved_a])), (m_tape_a, .inl (cI, 70, .inl m_tape))] := hD
    refine lv_istore_n (lv' := [(2, .int r10), (0, .ref m_h), (1, .int r1)]) hx hb dX5_court_52 rfl hl (by decide) rfl (fun ls hl => ?_)
    refine lv_aload_n hx hb dX5_court_53 rfl (lv_at hl 1 rfl) ?_
    refine lv_aload_n hx hb dX5_court_54 rfl (lv_at hl 1 rfl) ?_
    refine va_get (D := D) (ci := 5) (v := .int w12) (C := RX5) (T := TX5) (N := 17) hx hb hts hin_X5 hown hK hP 2 rfl rfl 4 (by decide) hf_123 (fun _ h9 => h9) rfl dX5_court_55 ?_
    obtain ⟨k_75, ek_75, hM⟩ := sx_lt_s hM
    have hk_75 : ∀ (y14 : Int32) (z15 : Int32) (H : Heap) (locs : List Loc) (ls : Array Slot), k_75 y14 z15 = some (r0, w_m_now, w_m_typed, w_m_place, w_m_isFault, w_m_read, w_m_undos) → lv_has ls 6 [(0, .ref m_h), (1, .int r1), (2, .int r10)] → va_P D vwCl [(m_now_a, .inl (cI, 65, .inl m_now)), (m_read_a, .inl (cI, 12, .inl m_read)), (m_h, .inr (5, [.ref m_now_a, .ref m_tape_a, .int m_typed, .int z15, .int w12, .ref m_read_a, .ref m_heard_a, .ref m_undone_a, .int m_undos, .ref m_aside_a, .ref m_kept_a, .int m_keptUndos, .int m_isKept, .ref m_lanes_a, .ref m_sizes_a, .ref m_items_a, .ref m_moved_a])), (m_tape_a, .inl (cI, 70, .inl m_tape))] H → va_D A [(m_now_a, .inl (cI, 65, .inl m_now)), (m_read_a, .inl (cI, 12, .inl m_read)), (m_h, .inr (5, [.ref m_now_a, .ref m_tape_a, .int m_typed, .int z15, .int w12, .ref m_read_a, .ref m_heard_a, .ref m_undone_a, .int m_undos, .ref m_aside_a, .ref m_kept_a, .int m_keptUndos, .int m_isKept, .ref m_lanes_a, .ref m_sizes_a, .ref m_items_a, .ref m_moved_a])), (m_tape_a, .inl (cI, 70, .inl m_tape))] → va_S A H0 H locs → W p l e R s m args below meth c H locs cells slots Q (F0 m 75 ls (.int y14 :: .ref m_h :: [])) := by
      intro y14 z15 H locs ls hM hl hP hD hS
      rw [ek_75] at hM
      obtain ⟨w16, w17, hc18, hM⟩ := sx_c2_s hM
      refine sx_vV (As := [.int y14]) (rest := []) (wc := [(m_h, .inr (5, [.ref m_now_a, .ref m_tape_a, .int m_typed, .int z15, .int w12, .ref m_read_a, .ref m_heard_a, .ref m_undone_a, .int m_undos, .ref m_aside_a, .ref m_kept_a, .int m_keptUndos, .int m_isKept, .ref m_lanes_a, .ref m_sizes_a, .ref m_items_a, .ref m_moved_a]))]) (wr := [(m_now_a, .inl (cI, 65, .inl m_now)), (m_read_a, .inl (cI, 12, .inl m_read)), (m_tape_a, .inl (cI, 70, .inl m_tape))]) (w1 := [(m_h, .inr (5, [.ref m_now_a, .ref m_tape_a, .int m_typed, .int w16, .int w17, .ref m_read_a, .ref m_heard_a, .ref m_undone_a, .int m_undos, .ref m_aside_a, .ref m_kept_a, .int m_keptUndos, .int m_isKept, .ref m_lanes_a, .ref m_sizes_a, .ref m_items_a, .ref m_moved_a]))]) ⟨hx, hb, hml, hown, hts⟩ (mtX5_must l D cI cJ cS H.size m_h m_now_a m_tape_a m_read_a m_heard_a m_undone_a m_aside_a m_kept_a m_lanes_a m_sizes_a m_items_a m_moved_a m_typed z15 w12 m_undos m_keptUndos m_isKept y14 F w16 w17 hc18) (cwV 1 hts gX5_court_X5_must rfl rfl rfl (by decide +kernel) ⟨Nat.le_trans (by decide) hRf, Nat.le_trans (by decide) hRl⟩) hK hN hP hD hS hA [2] [0, 1, 3] rfl (by decide) rfl (by decide) (by decide) rfl rfl rfl rfl hl.1 rfl (Nat.le_of_ble_eq_true rfl) dX5_court_75 hRc (fun H locs hP hD hS => ?_)
      have hP : va_P D vwCl [(m_now_a, .inl (cI, 65, .inl m_now)), (m_read_a, .inl (cI, 12, .inl m_read)), (m_tape_a, .inl (cI, 70, .inl m_tape)), (m_h, .inr (5, [.ref m_now_a, .ref m_tape_a, .int m_typed, .int w16, .int w17, .ref m_read_a, .ref m_heard_a, .ref m_undone_a, .int m_undos, .ref m_aside_a, .ref m_kept_a, .int m_keptUndos, .int m_isKept, .ref m_lanes_a, .ref m_sizes_a, .ref m_items_a, .ref m_moved_a]))] H := hP
      have hD : va_D A [(m_now_a, .inl (cI, 65, .inl m_now)), (m_read_a, .inl (cI, 12, .inl m_read)), (m_tape_a, .inl (cI, 70, .inl m_tape)), (m_h, .inr (5, [.ref m_now_a, .ref m_tape_a, .int m_typed, .int w16, .int w17, .ref m_read_a, .ref m_heard_a, .ref m_undone_a, .int m_undos, .ref m_aside_a, .ref m_kept_a, .int m_keptUndos, .int m_isKept, .ref m_lanes_a, .ref m_sizes_a, .ref m_items_a, .ref m_moved_a]))] := hD
      refine lv_aload_n hx hb dX5_court_78 rfl (lv_at hl 0 rfl) ?_
      obtain ⟨r19, w20, w21, w22, hc23, hM⟩ := sx_c4_s hM
      refine sx_iV (As := []) (rest := []) (wc := [(m_h, .inr (5, [.ref m_now_a, .ref m_tape_a, .int m_typed, .int w16, .int w17, .ref m_read_a, .ref m_heard_a, .ref m_undone_a, .int m_undos, .ref m_aside_a, .ref m_kept_a, .int m_keptUndos, .int m_isKept, .ref m_lanes_a, .ref m_sizes_a, .ref m_items_a, .ref m_moved_a])), (m_tape_a, .inl (cI, 70, .inl m_tape)), (m_read_a, .inl (cI, 12, .inl m_read))]) (wr := [(m_now_a, .inl (cI, 65, .inl m_now))]) (w1 := [(m_h, .inr (5, [.ref m_now_a, .ref m_tape_a, .int m_typed, .int w20, .int w21, .ref m_read_a, .ref m_heard_a, .ref m_undone_a, .int m_undos, .ref m_aside_a, .ref m_kept_a, .int m_keptUndos, .int m_isKept, .ref m_lanes_a, .ref m_sizes_a, .ref m_items_a, .ref m_moved_a])), (m_tape_a, .inl (cI, 70, .inl m_tape)), (m_read_a, .inl (cI, 12, .inl w22))]) ⟨hx, hb, hml, hown, hts⟩ (mtX5_readPersons l D cI cJ cS H.size m_h m_now_a m_tape_a m_read_a m_heard_a m_undone_a m_aside_a m_kept_a m_lanes_a m_sizes_a m_items_a m_moved_a m_tape m_typed w16 w17 m_read m_undos m_keptUndos m_isKept F r19 w20 w21 w22 hc23) (cwV 0 hts gX5_court_X5_readPersons rfl rfl rfl (by decide +kernel) ⟨Nat.le_trans (by decide) hRf, Nat.le_trans (by decide) hRl⟩) hK hN hP hD hS hA [3, 2, 1] [0] rfl (by decide) rfl (by decide) (by decide) rfl rfl rfl rfl hl.1 rfl (Nat.le_of_ble_eq_true rfl) dX5_court_79 hRc (fun H locs hP hD hS => ?_)
      have hP : va_P D vwCl [(m_now_a, .inl (cI, 65, .inl m_now)), (m_h, .inr (5, [.ref m_now_a, .ref m_tape_a, .int m_typed, .int w20, .int w21, .ref m_read_a, .ref m_heard_a, .ref m_undone_a, .int m_undos, .ref m_aside_a, .ref m_kept_a, .int m_keptUndos, .int m_isKept, .ref m_lanes_a, .ref m_sizes_a, .ref m_items_a, .ref m_moved_a])), (m_tape_a, .inl (cI, 70, .inl m_tape)), (m_read_a, .inl (cI, 12, .inl w22))] H := hP
      have hD : va_D A [(m_now_a, .inl (cI, 65, .inl m_now)), (m_h, .inr (5, [.ref m_now_a, .ref m_tape_a, .int m_typed, .int w20, .int w21, .ref m_read_a, .ref m_heard_a, .ref m_undone_a, .int m_undos, .ref m_aside_a, .ref m_kept_a, .int m_keptUndos, .int m_isKept, .ref m_lanes_a, .ref m_sizes_a, .ref m_items_a, .ref m_moved_a])), (m_tape_a, .inl (cI, 70, .inl m_tape)), (m_read_a, .inl (cI, 12, .inl w22))] := hD
      refine lv_istore_n (lv' := [(3, .int r19), (0, .ref m_h), (1, .int r1), (2, .int r10)]) hx hb dX5_court_82 rfl hl (by decide) rfl (fun ls hl => ?_)
      refine lv_aload_n hx hb dX5_court_83 rfl (lv_at hl 1 rfl) ?_
      refine lv_aload_n hx hb dX5_court_84 rfl (lv_at hl 1 rfl) ?_
      refine va_get (D := D) (ci := 5) (v := .int w21) (C := RX5) (T := TX5) (N := 17) hx hb hts hin_X5 hown hK hP 1 rfl rfl 4 (by decide) hf_123 (fun _ h9 => h9) rfl dX5_court_85 ?_
      obtain ⟨k_103, ek_103, hM⟩ := sx_lt_s hM
      have hk_103 : ∀ (y24 : Int32) (z25 : Int32) (H : Heap) (locs : List Loc) (ls : Array Slot), k_103 y24 z25 = some (r0, w_m_now, w_m_typed, w_m_place, w_m_isFault, w_m_read, w_m_undos) → lv_has ls 6 [(0, .ref m_h), (1, .int r1), (2, .int r10), (3, .int r19)] → va_P D vwCl [(m_now_a, .inl (cI, 65, .inl m_now)), (m_h, .inr (5, [.ref m_now_a, .ref m_tape_a, .int m_typed, .int z25, .int w21, .ref m_read_a, .ref m_heard_a, .ref m_undone_a, .int m_undos, .ref m_aside_a, .ref m_kept_a, .int m_keptUndos, .int m_isKept, .ref m_lanes_a, .ref m_sizes_a, .ref m_items_a, .ref m_moved_a])), (m_tape_a, .inl (cI, 70, .inl m_tape)), (m_read_a, .inl (cI, 12, .inl w22))] H → va_D A [(m_now_a, .inl (cI, 65, .inl m_now)), (m_h, .inr (5, [.ref m_now_a, .ref m_tape_a, .int m_typed, .int z25, .int w21, .ref m_read_a, .ref m_heard_a, .ref m_undone_a, .int m_undos, .ref m_aside_a, .ref m_kept_a, .int m_keptUndos, .int m_isKept, .ref m_lanes_a, .ref m_sizes_a, .ref m_items_a, .ref m_moved_a])), (m_tape_a, .inl (cI, 70, .inl m_tape)), (m_read_a, .inl (cI, 12, .inl w22))] → va_S A H0 H locs → W p l e R s m args below meth c H locs cells slots Q (F0 m 103 ls (.int y24 :: .ref m_h :: [])) := by
        intro y24 z25 H locs ls hM hl hP hD hS
        rw [ek_103] at hM
        obtain ⟨g26, hM⟩ := sx_gd_s hM
        refine va_put (D := D) (ci := 5) (v := .int y24) (ty := .boolean) (C := RX5) (T := TX5) (N := 17) hx hb hts hin_X5 tyX5 tyX5_ok nmX5 hown hK hP hD hS 1 rfl rfl 4 (by decide) hf_123 (fun _ h9 => h9) rfl (tyX5_ok 4 (by decide)) (sx_bl_s g26).1 (sx_bl_s g26).2 (Nat.le_of_ble_eq_true rfl) dX5_court_103 (fun H locs hP hD hS => ?_)
        have hP : va_P D vwCl [(m_now_a, .inl (cI, 65, .inl m_now)), (m_h, .inr (5, [.ref m_now_a, .ref m_tape_a, .int m_typed, .int z25, .int y24, .ref m_read_a, .ref m_heard_a, .ref m_undone_a, .int m_undos, .ref m_aside_a, .ref m_kept_a, .int m_keptUndos, .int m_isKept, .ref m_lanes_a, .ref m_sizes_a, .ref m_items_a, .ref m_moved_a])), (m_tape_a, .inl (cI, 70, .inl m_tape)), (m_read_a, .inl (cI, 12, .inl w22))] H := hP
        have hD : va_D A [(m_now_a, .inl (cI, 65, .inl m_now)), (m_h, .inr (5, [.ref m_now_a, .ref m_tape_a, .int m_typed, .int z25, .int y24, .ref m_read_a, .ref m_heard_a, .ref m_undone_a, .int m_undos, .ref m_aside_a, .ref m_kept_a, .int m_keptUndos, .int m_isKept, .ref m_lanes_a, .ref m_sizes_a, .ref m_items_a, .ref m_moved_a])), (m_tape_a, .inl (cI, 70, .inl m_tape)), (m_read_a, .inl (cI, 12, .inl w22))] := hD
        refine lv_aload_n hx hb dX5_court_106 rfl (lv_at hl 0 rfl) ?_
        refine lv_iconst (v := 0) hx hb dX5_court_107 (by decide) ?_
        refine va_put (D := D) (ci := 5) (v := .int (0 : Int32)) (ty := .int) (C := RX5) (T := TX5) (N := 17) hx hb hts hin_X5 tyX5 tyX5_ok nmX5 hown hK hP hD hS 1 rfl rfl 2 (by decide) hf_117 (fun _ h9 => h9) rfl (tyX5_ok 2 (by decide)) rfl rfl (Nat.le_of_ble_eq_true rfl) dX5_court_108 (fun H locs hP hD hS => ?_)
        have hP : va_P D vwCl [(m_now_a, .inl (cI, 65, .inl m_now)), (m_h, .inr (5, [.ref m_now_a, .ref m_tape_a, .int (0 : Int32), .int z25, .int y24, .ref m_read_a, .ref m_heard_a, .ref m_undone_a, .int m_undos, .ref m_aside_a, .ref m_kept_a, .int m_keptUndos, .int m_isKept, .ref m_lanes_a, .ref m_sizes_a, .ref m_items_a, .ref m_moved_a])), (m_tape_a, .inl (cI, 70, .inl m_tape)), (m_read_a, .inl (cI, 12, .inl w22))] H := hP
        have hD : va_D A [(m_now_a, .inl (cI, 65, .inl m_now)), (m_h, .inr (5, [.ref m_now_a, .ref m_tape_a, .int (0 : Int32), .int z25, .int y24, .ref m_read_a, .ref m_heard_a, .ref m_undone_a, .int m_undos, .ref m_aside_a, .ref m_kept_a, .int m_keptUndos, .int m_isKept, .ref m_lanes_a, .ref m_sizes_a, .ref m_items_a, .ref m_moved_a])), (m_tape_a, .inl (cI, 70, .inl m_tape)), (m_read_a, .inl (cI, 12, .inl w22))] := hD
        refine lv_aload_n hx hb dX5_court_111 rfl (lv_at hl 0 rfl) ?_
        refine va_get (D := D) (ci := 5) (v := .int y24) (C := RX5) (T := TX5) (N := 17) hx hb hts hin_X5 hown hK hP 1 rfl rfl 4 (by decide) hf_123 (fun _ h9 => h9) rfl dX5_court_112 ?_
        refine lv_if_eq (tgt := 126) hx hb dX5_court_115 (by decide) (fun c27 => ?_) (fun c27 => ?_)
        · replace hM := sx_ift c27 hM
          refine lv_aload_n hx hb dX5_court_126 rfl (lv_at hl 0 rfl) ?_
          refine va_get (D := D) (ci := 5) (v := .ref m_now_a) (C := RX5) (T := TX5) (N := 17) hx hb hts hin_X5 hown hK hP 1 rfl rfl 0 (by decide) hf_7 (fun _ h9 => h9) rfl dX5_court_127 ?_
          refine lv_iconst (v := 0) hx hb dX5_court_130 (by decide) ?_
          refine lv_iconst (v := 0) hx hb dX5_court_131 (by decide) ?_
          refine va_iast hx hb hK hP hD hS 0 0 rfl rfl (sx_ib_s (by decide)) dX5_court_132 (fun H locs hP hD hS => ?_)
          have hP : va_P D vwCl [(m_now_a, .inl (cI, 65, .inl (upd m_now ((0 : Int32)).toNatClampNeg (0 : Int32)))), (m_h, .inr (5, [.ref m_now_a, .ref m_tape_a, .int (0 : Int32), .int z25, .int y24, .ref m_read_a, .ref m_heard_a, .ref m_undone_a, .int m_undos, .ref m_aside_a, .ref m_kept_a, .int m_keptUndos, .int m_isKept, .ref m_lanes_a, .ref m_sizes_a, .ref m_items_a, .ref m_moved_a])), (m_tape_a, .inl (cI, 70, .inl m_tape)), (m_read_a, .inl (cI, 12, .inl w22))] H := hP
          have hD : va_D A [(m_now_a, .inl (cI, 65, .inl (upd m_now ((0 : Int32)).toNatClampNeg (0 : Int32)))), (m_h, .inr (5, [.ref m_now_a, .ref m_tape_a, .int (0 : Int32), .int z25, .int y24, .ref m_read_a, .ref m_heard_a, .ref m_undone_a, .int m_undos, .ref m_aside_a, .ref m_kept_a, .int m_keptUndos, .int m_isKept, .ref m_lanes_a, .ref m_sizes_a, .ref m_items_a, .ref m_moved_a])), (m_tape_a, .inl (cI, 70, .inl m_tape)), (m_read_a, .inl (cI, 12, .inl w22))] := hD
          refine lv_aload_n hx hb dX5_court_133 rfl (lv_at hl 0 rfl) ?_
          refine va_get (D := D) (ci := 5) (v := .ref m_now_a) (C := RX5) (T := TX5) (N := 17) hx hb hts hin_X5 hown hK hP 1 rfl rfl 0 (by decide) hf_7 (fun _ h9 => h9) rfl dX5_court_134 ?_
          refine lv_iconst (v := 1) hx hb dX5_court_137 (by decide) ?_
          refine lv_iconst (v := 0) hx hb dX5_court_138 (by decide) ?_
          refine va_iast hx hb hK hP hD hS 0 0 rfl rfl (sx_ib_s (by decide)) dX5_court_139 (fun H locs hP hD hS => ?_)
          have hP : va_P D vwCl [(m_now_a, .inl (cI, 65, .inl (upd (upd m_now ((0 : Int32)).toNatClampNeg (0 : Int32)) ((1 : Int32)).toNatClampNeg (0 : Int32)))), (m_h, .inr (5, [.ref m_now_a, .ref m_tape_a, .int (0 : Int32), .int z25, .int y24, .ref m_read_a, .ref m_heard_a, .ref m_undone_a, .int m_undos, .ref m_aside_a, .ref m_kept_a, .int m_keptUndos, .int m_isKept, .ref m_lanes_a, .ref m_sizes_a, .ref m_items_a, .ref m_moved_a])), (m_tape_a, .inl (cI, 70, .inl m_tape)), (m_read_a, .inl (cI, 12, .inl w22))] H := hP
          have hD : va_D A [(m_now_a, .inl (cI, 65, .inl (upd (upd m_now ((0 : Int32)).toNatClampNeg (0 : Int32)) ((1 : Int32)).toNatClampNeg (0 : Int32)))), (m_h, .inr (5, [.ref m_now_a, .ref m_tape_a, .int (0 : Int32), .int z25, .int y24, .ref m_read_a, .ref m_heard_a, .ref m_undone_a, .int m_undos, .ref m_aside_a, .ref m_kept_a, .int m_keptUndos, .int m_isKept, .ref m_lanes_a, .ref m_sizes_a, .ref m_items_a, .ref m_moved_a])), (m_tape_a, .inl (cI, 70, .inl m_tape)), (m_read_a, .inl (cI, 12, .inl w22))] := hD
          refine lv_aload_n hx hb dX5_court_140 rfl (lv_at hl 0 rfl) ?_
          refine va_get (D := D) (ci := 5) (v := .ref m_now_a) (C := RX5) (T := TX5) (N := 17) hx hb hts hin_X5 hown hK hP 1 rfl rfl 0 (by decide) hf_7 (fun _ h9 => h9) rfl dX5_court_141 ?_
          refine lv_iconst (v := 2) hx hb dX5_court_144 (by decide) ?_
          refine lv_iload_n hx hb dX5_court_145 rfl (lv_at hl 1 rfl) ?_
          refine va_iast hx hb hK hP hD hS 0 0 rfl rfl (sx_ib_s (by decide)) dX5_court_146 (fun H locs hP hD hS => ?_)
          have hP : va_P D vwCl [(m_now_a, .inl (cI, 65, .inl (upd (upd (upd m_now ((0 : Int32)).toNatClampNeg (0 : Int32)) ((1 : Int32)).toNatClampNeg (0 : Int32)) ((2 : Int32)).toNatClampNeg r1))), (m_h, .inr (5, [.ref m_now_a, .ref m_tape_a, .int (0 : Int32), .int z25, .int y24, .ref m_read_a, .ref m_heard_a, .ref m_undone_a, .int m_undos, .ref m_aside_a, .ref m_kept_a, .int m_keptUndos, .int m_isKept, .ref m_lanes_a, .ref m_sizes_a, .ref m_items_a, .ref m_moved_a])), (m_tape_a, .inl (cI, 70, .inl m_tape)), (m_read_a, .inl (cI, 12, .inl w22))] H := hP
          have hD : va_D A [(m_now_a, .inl (cI, 65, .inl (upd (upd (upd m_now ((0 : Int32)).toNatClampNeg (0 : Int32)) ((1 : Int32)).toNatClampNeg (0 : Int32)) ((2 : Int32)).toNatClampNeg r1))), (m_h, .inr (5, [.ref m_now_a, .ref m_tape_a, .int (0 : Int32), .int z25, .int y24, .ref m_read_a, .ref m_heard_a, .ref m_undone_a, .int m_undos, .ref m_aside_a, .ref m_kept_a, .int m_keptUndos, .int m_isKept, .ref m_lanes_a, .ref m_sizes_a, .ref m_items_a, .ref m_moved_a])), (m_tape_a, .inl (cI, 70, .inl m_tape)), (m_read_a, .inl (cI, 12, .inl w22))] := hD
          refine lv_aload_n hx hb dX5_court_147 rfl (lv_at hl 0 rfl) ?_
          refine va_get (D := D) (ci := 5) (v := .ref m_now_a) (C := RX5) (T := TX5) (N := 17) hx hb hts hin_X5 hown hK hP 1 rfl rfl 0 (by decide) hf_7 (fun _ h9 => h9) rfl dX5_court_148 ?_
          refine lv_iconst (v := 3) hx hb dX5_court_151 (by decide) ?_
          refine lv_iload_n hx hb dX5_court_152 rfl (lv_at hl 2 rfl) ?_
          refine va_iast hx hb hK hP hD hS 0 0 rfl rfl (sx_ib_s (by decide)) dX5_court_153 (fun H locs hP hD hS => ?_)
          have hP : va_P D vwCl [(m_now_a, .inl (cI, 65, .inl (upd (upd (upd (upd m_now ((0 : Int32)).toNatClampNeg (0 : Int32)) ((1 : Int32)).toNatClampNeg (0 : Int32)) ((2 : Int32)).toNatClampNeg r1) ((3 : Int32)).toNatClampNeg r10))), (m_h, .inr (5, [.ref m_now_a, .ref m_tape_a, .int (0 : Int32), .int z25, .int y24, .ref m_read_a, .ref m_heard_a, .ref m_undone_a, .int m_undos, .ref m_aside_a, .ref m_kept_a, .int m_keptUndos, .int m_isKept, .ref m_lanes_a, .ref m_sizes_a, .ref m_items_a, .ref m_moved_a])), (m_tape_a, .inl (cI, 70, .inl m_tape)), (m_read_a, .inl (cI, 12, .inl w22))] H := hP
          have hD : va_D A [(m_now_a, .inl (cI, 65, .inl (upd (upd (upd (upd m_now ((0 : Int32)).toNatClampNeg (0 : Int32)) ((1 : Int32)).toNatClampNeg (0 : Int32)) ((2 : Int32)).toNatClampNeg r1) ((3 : Int32)).toNatClampNeg r10))), (m_h, .inr (5, [.ref m_now_a, .ref m_tape_a, .int (0 : Int32), .int z25, .int y24, .ref m_read_a, .ref m_heard_a, .ref m_undone_a, .int m_undos, .ref m_aside_a, .ref m_kept_a, .int m_keptUndos, .int m_isKept, .ref m_lanes_a, .ref m_sizes_a, .ref m_items_a, .ref m_moved_a])), (m_tape_a, .inl (cI, 70, .inl m_tape)), (m_read_a, .inl (cI, 12, .inl w22))] := hD
          refine lv_iconst (v := 0) hx hb dX5_court_154 (by decide) ?_
          refine lv_istore (lv' := [(4, .int (0 : Int32)), (0, .ref m_h), (1, .int r1), (2, .int r10), (3, .int r19)]) hx hb dX5_court_155 hl (by decide) rfl (fun ls hl => ?_)
          have lp_157 : ∀ (n : Nat) (x28 : Int32) (z29 : Nat → Int32) (z30 : Int32) (H : Heap) (locs : List Loc) (ls : Array Slot), sx_lp3 (bdX5_court_157 F r1 r19 (0 : Int32) z25 y24 w22) n x28 z29 z30 = some (r0, w_m_now, w_m_typed, w_m_place, w_m_isFault, w_m_read, w_m_undos) → lv_has ls 6 [(0, .ref m_h), (1, .int r1), (3, .int r19), (4, .int x28)] → va_P D vwCl [(m_now_a, .inl (cI, 65, .inl z29)), (m_h, .inr (5, [.ref m_now_a, .ref m_tape_a, .int (0 : Int32), .int z25, .int y24, .ref m_read_a, .ref m_heard_a, .ref m_undone_a, .int z30, .ref m_aside_a, .ref m_kept_a, .int m_keptUndos, .int m_isKept, .ref m_lanes_a, .ref m_sizes_a, .ref m_items_a, .ref m_moved_a])), (m_tape_a, .inl (cI, 70, .inl m_tape)), (m_read_a, .inl (cI, 12, .inl w22))] H → va_D A [(m_now_a, .inl (cI, 65, .inl z29)), (m_h, .inr (5, [.ref m_now_a, .ref m_tape_a, .int (0 : Int32), .int z25, .int y24, .ref m_read_a, .ref m_heard_a, .ref m_undone_a, .int z30, .ref m_aside_a, .ref m_kept_a, .int m_keptUndos, .int m_isKept, .ref m_lanes_a, .ref m_sizes_a, .ref m_items_a, .ref m_moved_a])), (m_tape_a, .inl (cI, 70, .inl m_tape)), (m_read_a, .inl (cI, 12, .inl w22))] → va_S A H0 H locs → W p l e R s m args below meth c H locs cells slots Q (F0 m 157 ls ([])) := by
            intro n
            induction n with
            | zero => intro x28 z29 z30 H locs ls hM; exact (sx_lp3_0 hM).elim
            | succ n ih =>
              intro x28 z29 z30 H locs ls hM hl hP hD hS
              have hM : bdX5_court_157 F r1 r19 (0 : Int32) z25 y24 w22 (sx_lp3 (bdX5_court_157 F r1 r19 (0 : Int32) z25 y24 w22) n) x28 z29 z30 = some (r0, w_m_now, w_m_typed, w_m_place, w_m_isFault, w_m_read, w_m_undos) := hM
              generalize sx_lp3 (bdX5_court_157 F r1 r19 (0 : Int32) z25 y24 w22) n = r_157 at hM ih
              unfold bdX5_court_157 at hM
              refine lv_iload hx hb dX5_court_157 (lv_at hl 3 rfl) ?_
              refine lv_iload_n hx hb dX5_court_159 rfl (lv_at hl 2 rfl) ?_
              refine lv_icmp_ge (tgt := 239) hx hb dX5_court_160 (by decide) (fun c31 => ?_) (fun c31 => ?_)
              · replace hM := sx_ift c31 hM
                refine lv_iload_n hx hb dX5_court_239 rfl (lv_at hl 2 rfl) ?_
                obtain ⟨rfl, rfl, rfl, rfl, rfl, rfl, rfl⟩ := sx_o7 hM
                exact hret _ _ _ _ dX5_court_240 (hP.sub [1, 0, 2, 3] rfl) (hD.sub [1, 0, 2, 3] (by decide) rfl) hS
              · replace hM := sx_iff c31 hM
                refine lv_aload_n hx hb dX5_court_163 rfl (lv_at hl 0 rfl) ?_
                refine lv_aload_n hx hb dX5_court_164 rfl (lv_at hl 0 rfl) ?_
                refine va_get (D := D) (ci := 5) (v := .ref m_read_a) (C := RX5) (T := TX5) (N := 17) hx hb hts hin_X5 hown hK hP 1 rfl rfl 5 (by decide) hf_16 (fun _ h9 => h9) rfl dX5_court_165 ?_
                refine lv_iconst (v := 2) hx hb dX5_court_168 (by decide) ?_
                refine lv_iload hx hb dX5_court_169 (lv_at hl 3 rfl) ?_
                refine lv_imul hx hb dX5_court_171 ?_
                obtain ⟨g32, hM⟩ := sx_gd_s hM
                refine va_iald hx hb hK hP 3 0 rfl rfl (sx_ib_s g32) dX5_court_172 ?_
                obtain ⟨w33, w34, hc35, hM⟩ := sx_c2_s hM
                refine sx_vV (As := [.int (w22 (((2 : Int32) * x28)).toNatClampNeg)]) (rest := []) (wc := [(m_h, .inr (5, [.ref m_now_a, .ref m_tape_a, .int (0 : Int32), .int z25, .int y24, .ref m_read_a, .ref m_heard_a, .ref m_undone_a, .int z30, .ref m_aside_a, .ref m_kept_a, .int m_keptUndos, .int m_isKept, .ref m_lanes_a, .ref m_sizes_a, .ref m_items_a, .ref m_moved_a])), (m_now_a, .inl (cI, 65, .inl z29))]) (wr := [(m_tape_a, .inl (cI, 70, .inl m_tape)), (m_read_a, .inl (cI, 12, .inl w22))]) (w1 := [(m_h, .inr (5, [.ref m_now_a, .ref m_tape_a, .int (0 : Int32), .int z25, .int y24, .ref m_read_a, .ref m_heard_a, .ref m_undone_a, .int w34, .ref m_aside_a, .ref m_kept_a, .int m_keptUndos, .int m_isKept, .ref m_lanes_a, .ref m_sizes_a, .ref m_items_a, .ref m_moved_a])), (m_now_a, .inl (cI, 65, .inl w33))]) ⟨hx, hb, hml, hown, hts⟩ (mtX5_comes l D cI cJ cS H.size m_h m_now_a m_tape_a m_read_a m_heard_a m_undone_a m_aside_a m_kept_a m_lanes_a m_sizes_a m_items_a m_moved_a z29 (0 : Int32) z25 y24 z30 m_keptUndos m_isKept (w22 (((2 : Int32) * x28)).toNatClampNeg) F w33 w34 hc35) (cwV 1 hts gX5_court_X5_comes rfl rfl rfl (by decide +kernel) ⟨Nat.le_trans (by decide) hRf, Nat.le_trans (by decide) hRl⟩) hK hN hP hD hS hA [1, 0] [2, 3] rfl (by decide) rfl (by decide) (by decide) rfl rfl rfl rfl hl.1 rfl (Nat.le_of_ble_eq_true rfl) dX5_court_173 hRc (fun H locs hP hD hS => ?_)
                have hP : va_P D vwCl [(m_tape_a, .inl (cI, 70, .inl m_tape)), (m_read_a, .inl (cI, 12, .inl w22)), (m_h, .inr (5, [.ref m_now_a, .ref m_tape_a, .int (0 : Int32), .int z25, .int y24, .ref m_read_a, .ref m_heard_a, .ref m_undone_a, .int w34, .ref m_aside_a, .ref m_kept_a, .int m_keptUndos, .int m_isKept, .ref m_lanes_a, .ref m_sizes_a, .ref m_items_a, .ref m_moved_a])), (m_now_a, .inl (cI, 65, .inl w33))] H := hP
                have hD : va_D A [(m_tape_a, .inl (cI, 70, .inl m_tape)), (m_read_a, .inl (cI, 12, .inl w22)), (m_h, .inr (5, [.ref m_now_a, .ref m_tape_a, .int (0 : Int32), .int z25, .int y24, .ref m_read_a, .ref m_heard_a, .ref m_undone_a, .int w34, .ref m_aside_a, .ref m_kept_a, .int m_keptUndos, .int m_isKept, .ref m_lanes_a, .ref m_sizes_a, .ref m_items_a, .ref m_moved_a])), (m_now_a, .inl (cI, 65, .inl w33))] := hD
                refine lv_iconst (v := 0) hx hb dX5_court_176 (by decide) ?_
                refine lv_istore (lv' := [(5, .int (0 : Int32)), (0, .ref m_h), (1, .int r1), (3, .int r19), (4, .int x28)]) hx hb dX5_court_177 hl (by decide) rfl (fun ls hl => ?_)
                obtain ⟨k_233, ek_233, hM⟩ := sx_lt_s hM
                have hk_233 : ∀ (z36 : Nat → Int32) (H : Heap) (locs : List Loc) (ls : Array Slot), k_233 z36 = some (r0, w_m_now, w_m_typed, w_m_place, w_m_isFault, w_m_read, w_m_undos) → lv_has ls 6 [(0, .ref m_h), (1, .int r1), (3, .int r19), (4, .int x28)] → va_P D vwCl [(m_tape_a, .inl (cI, 70, .inl m_tape)), (m_read_a, .inl (cI, 12, .inl w22)), (m_h, .inr (5, [.ref m_now_a, .ref m_tape_a, .int (0 : Int32), .int z25, .int y24, .ref m_read_a, .ref m_heard_a, .ref m_undone_a, .int w34, .ref m_aside_a, .ref m_kept_a, .int m_keptUndos, .int m_isKept, .ref m_lanes_a, .ref m_sizes_a, .ref m_items_a, .ref m_moved_a])), (m_now_a, .inl (cI, 65, .inl z36))] H → va_D A [(m_tape_a, .inl (cI, 70, .inl m_tape)), (m_read_a, .inl (cI, 12, .inl w22)), (m_h, .inr (5, [.ref m_now_a, .ref m_tape_a, .int (0 : Int32), .int z25, .int y24, .ref m_read_a, .ref m_heard_a, .ref m_undone_a, .int w34, .ref m_aside_a, .ref m_kept_a, .int m_keptUndos, .int m_isKept, .ref m_lanes_a, .ref m_sizes_a, .ref m_items_a, .ref m_moved_a])), (m_now_a, .inl (cI, 65, .inl z36))] → va_S A H0 H locs → W p l e R s m args below meth c H locs cells slots Q (F0 m 233 ls ([])) := by
                  intro z36 H locs ls hM hl hP hD hS
                  rw [ek_233] at hM
                  obtain ⟨v37, ev37, hM⟩ := sx_nm_s hM
                  refine lv_iinc (v := v37) (lv' := [(4, .int v37), (0, .ref m_h), (1, .int r1), (3, .int r19)]) hx hb dX5_court_233 hl (k := 3) rfl (by rw [ev37]; rfl) (by decide) rfl (fun ls hl => ?_)
                  refine lv_goto (tgt := 157) hx hb dX5_court_236 (by decide) ?_
                  exact ih v37 z36 w34 _ _ _ hM (lv_sub hl [1, 2, 3, 0] rfl) (hP.sub [3, 2, 0, 1] rfl) (hD.sub [3, 2, 0, 1] (by decide) rfl) hS
                have lp_179 : ∀ (n : Nat) (x38 : Int32) (z39 : Nat → Int32) (H : Heap) (locs : List Loc) (ls : Array Slot), sx_lp2 (bdX5_court_179 F r1 x28 w22 k_233) n x38 z39 = some (r0, w_m_now, w_m_typed, w_m_place, w_m_isFault, w_m_read, w_m_undos) → lv_has ls 6 [(0, .ref m_h), (1, .int r1), (3, .int r19), (4, .int x28), (5, .int x38)] → va_P D vwCl [(m_tape_a, .inl (cI, 70, .inl m_tape)), (m_read_a, .inl (cI, 12, .inl w22)), (m_h, .inr (5, [.ref m_now_a, .ref m_tape_a, .int (0 : Int32), .int z25, .int y24, .ref m_read_a, .ref m_heard_a, .ref m_undone_a, .int w34, .ref m_aside_a, .ref m_kept_a, .int m_keptUndos, .int m_isKept, .ref m_lanes_a, .ref m_sizes_a, .ref m_items_a, .ref m_moved_a])), (m_now_a, .inl (cI, 65, .inl z39))] H → va_D A [(m_tape_a, .inl (cI, 70, .inl m_tape)), (m_read_a, .inl (cI, 12, .inl w22)), (m_h, .inr (5, [.ref m_now_a, .ref m_tape_a, .int (0 : Int32), .int z25, .int y24, .ref m_read_a, .ref m_heard_a, .ref m_undone_a, .int w34, .ref m_aside_a, .ref m_kept_a, .int m_keptUndos, .int m_isKept, .ref m_lanes_a, .ref m_sizes_a, .ref m_items_a, .ref m_moved_a])), (m_now_a, .inl (cI, 65, .inl z39))] → va_S A H0 H locs → W p l e R s m args below meth c H locs cells slots Q (F0 m 179 ls ([])) := by
                  intro n
                  induction n with
                  | zero => intro x38 z39 H locs ls hM; exact (sx_lp2_0 hM).elim
                  | succ n ih =>
                    intro x38 z39 H locs ls hM hl hP hD hS
                    have hM : bdX5_court_179 F r1 x28 w22 k_233 (sx_lp2 (bdX5_court_179 F r1 x28 w22 k_233) n) x38 z39 = some (r0, w_m_now, w_m_typed, w_m_place, w_m_isFault, w_m_read, w_m_undos) := hM
                    generalize sx_lp2 (bdX5_court_179 F r1 x28 w22 k_233) n = r_179 at hM ih
                    unfold bdX5_court_179 at hM
                    refine lv_iload hx hb dX5_court_179 (lv_at hl 4 rfl) ?_
                    refine lv_bipush (v := 8) hx hb dX5_court_181 (by decide) ?_
                    refine lv_icmp_ge (tgt := 233) hx hb dX5_court_183 (by decide) (fun c40 => ?_) (fun c40 => ?_)
                    · replace hM := sx_ift c40 hM
                      exact hk_233 z39 _ _ _ hM (lv_sub hl [0, 1, 2, 3] rfl) (hP.sub [0, 1, 2, 3] rfl) (hD.sub [0, 1, 2, 3] (by decide) rfl) hS
                    · replace hM := sx_iff c40 hM
                      refine lv_aload_n hx hb dX5_court_186 rfl (lv_at hl 0 rfl) ?_
                      refine va_get (D := D) (ci := 5) (v := .ref m_now_a) (C := RX5) (T := TX5) (N := 17) hx hb hts hin_X5 hown hK hP 2 rfl rfl 0 (by decide) hf_7 (fun _ h9 => h9) rfl dX5_court_187 ?_
                      refine lv_bipush (v := 17) hx hb dX5_court_190 (by decide) ?_
                      refine lv_bipush (v := 8) hx hb dX5_court_192 (by decide) ?_
                      refine lv_iload hx hb dX5_court_194 (lv_at hl 3 rfl) ?_
                      refine lv_imul hx hb dX5_court_196 ?_
                      refine lv_iadd hx hb dX5_court_197 ?_
                      refine lv_iload hx hb dX5_court_198 (lv_at hl 4 rfl) ?_
                      refine lv_iadd hx hb dX5_court_200 ?_
                      refine lv_aload_n hx hb dX5_court_201 rfl (lv_at hl 0 rfl) ?_
                      refine va_get (D := D) (ci := 5) (v := .ref m_read_a) (C := RX5) (T := TX5) (N := 17) hx hb hts hin_X5 hown hK hP 2 rfl rfl 5 (by decide) hf_16 (fun _ h9 => h9) rfl dX5_court_202 ?_
                      refine lv_iconst (v := 2) hx hb dX5_court_205 (by decide) ?_
                      refine lv_iload hx hb dX5_court_206 (lv_at hl 3 rfl) ?_
                      refine lv_imul hx hb dX5_court_208 ?_
                      refine lv_iconst (v := 1) hx hb dX5_court_209 (by decide) ?_
                      refine lv_iadd hx hb dX5_court_210 ?_
                      obtain ⟨g41, hM⟩ := sx_gd_s hM
                      refine va_iald hx hb hK hP 1 0 rfl rfl (sx_ib_s g41) dX5_court_211 ?_
                      refine lv_iload hx hb dX5_court_212 (lv_at hl 4 rfl) ?_
                      refine lv_ishr hx hb dX5_court_214 ?_
                      refine lv_iconst (v := 1) hx hb dX5_court_215 (by decide) ?_
                      refine lv_iand hx hb dX5_court_216 ?_
                      refine lv_iconst (v := 1) hx hb dX5_court_217 (by decide) ?_
                      obtain ⟨k_226, ek_226, hM⟩ := sx_lt_s hM
                      have hk_226 : ∀ (y42 : Int32) (H : Heap) (locs : List Loc) (ls : Array Slot), k_226 y42 = some (r0, w_m_now, w_m_typed, w_m_place, w_m_isFault, w_m_read, w_m_undos) → lv_has ls 6 [(0, .ref m_h), (1, .int r1), (3, .int r19), (4, .int x28), (5, .int x38)] → va_P D vwCl [(m_tape_a, .inl (cI, 70, .inl m_tape)), (m_read_a, .inl (cI, 12, .inl w22)), (m_h, .inr (5, [.ref m_now_a, .ref m_tape_a, .int (0 : Int32), .int z25, .int y24, .ref m_read_a, .ref m_heard_a, .ref m_undone_a, .int w34, .ref m_aside_a, .ref m_kept_a, .int m_keptUndos, .int m_isKept, .ref m_lanes_a, .ref m_sizes_a, .ref m_items_a, .ref m_moved_a])), (m_now_a, .inl (cI, 65, .inl z39))] H → va_D A [(m_tape_a, .inl (cI, 70, .inl m_tape)), (m_read_a, .inl (cI, 12, .inl w22)), (m_h, .inr (5, [.ref m_now_a, .ref m_tape_a, .int (0 : Int32), .int z25, .int y24, .ref m_read_a, .ref m_heard_a, .ref m_undone_a, .int w34, .ref m_aside_a, .ref m_kept_a, .int m_keptUndos, .int m_isKept, .ref m_lanes_a, .ref m_sizes_a, .ref m_items_a, .ref m_moved_a])), (m_now_a, .inl (cI, 65, .inl z39))] → va_S A H0 H locs → W p l e R s m args below meth c H locs cells slots Q (F0 m 226 ls (.int y42 :: .int (((17 : Int32) + ((8 : Int32) * x28)) + x38) :: .ref m_now_a :: [])) := by
                        intro y42 H locs ls hM hl hP hD hS
                        rw [ek_226] at hM
                        obtain ⟨g43, hM⟩ := sx_gd_s hM
                        refine va_iast hx hb hK hP hD hS 3 0 rfl rfl (sx_ib_s g43) dX5_court_226 (fun H locs hP hD hS => ?_)
                        have hP : va_P D vwCl [(m_tape_a, .inl (cI, 70, .inl m_tape)), (m_read_a, .inl (cI, 12, .inl w22)), (m_h, .inr (5, [.ref m_now_a, .ref m_tape_a, .int (0 : Int32), .int z25, .int y24, .ref m_read_a, .ref m_heard_a, .ref m_undone_a, .int w34, .ref m_aside_a, .ref m_kept_a, .int m_keptUndos, .int m_isKept, .ref m_lanes_a, .ref m_sizes_a, .ref m_items_a, .ref m_moved_a])), (m_now_a, .inl (cI, 65, .inl (upd z39 ((((17 : Int32) + ((8 : Int32) * x28)) + x38)).toNatClampNeg y42)))] H := hP
                        have hD : va_D A [(m_tape_a, .inl (cI, 70, .inl m_tape)), (m_read_a, .inl (cI, 12, .inl w22)), (m_h, .inr (5, [.ref m_now_a, .ref m_tape_a, .int (0 : Int32), .int z25, .int y24, .ref m_read_a, .ref m_heard_a, .ref m_undone_a, .int w34, .ref m_aside_a, .ref m_kept_a, .int m_keptUndos, .int m_isKept, .ref m_lanes_a, .ref m_sizes_a, .ref m_items_a, .ref m_moved_a])), (m_now_a, .inl (cI, 65, .inl (upd z39 ((((17 : Int32) + ((8 : Int32) * x28)) + x38)).toNatClampNeg y42)))] := hD
                        obtain ⟨v44, ev44, hM⟩ := sx_nm_s hM
                        refine lv_iinc (v := v44) (lv' := [(5, .int v44), (0, .ref m_h), (1, .int r1), (3, .int r19), (4, .int x28)]) hx hb dX5_court_227 hl (k := 4) rfl (by rw [ev44]; rfl) (by decide) rfl (fun ls hl => ?_)
                        refine lv_goto (tgt := 179) hx hb dX5_court_230 (by decide) ?_
                        exact ih v44 (upd z39 ((((17 : Int32) + ((8 : Int32) * x28)) + x38)).toNatClampNeg y42) _ _ _ hM (lv_sub hl [1, 2, 3, 4, 0] rfl) (hP.sub [0, 1, 2, 3] rfl) (hD.sub [0, 1, 2, 3] (by decide) rfl) hS
                      refine lv_icmp_ne (tgt := 225) hx hb dX5_court_218 (by decide) (fun c45 => ?_) (fun c45 => ?_)
                      · replace hM := sx_iff c45 hM
                        refine lv_iconst (v := -1) hx hb dX5_court_225 (by decide) ?_
                        exact hk_226 (-1 : Int32) _ _ _ hM (lv_sub hl [0, 1, 2, 3, 4] rfl) (hP.sub [0, 1, 2, 3] rfl) (hD.sub [0, 1, 2, 3] (by decide) rfl) hS
                      · replace hM := sx_ift c45 hM
                        refine lv_iload_n hx hb dX5_court_221 rfl (lv_at hl 1 rfl) ?_
                        refine lv_goto (tgt := 226) hx hb dX5_court_222 (by decide) ?_
                        exact hk_226 r1 _ _ _ hM (lv_sub hl [0, 1, 2, 3, 4] rfl) (hP.sub [0, 1, 2, 3] rfl) (hD.sub [0, 1, 2, 3] (by decide) rfl) hS
                exact lp_179 F (0 : Int32) w33 _ _ _ hM (lv_sub hl [1, 2, 3, 4, 0] rfl) (hP.sub [0, 1, 2, 3] rfl) (hD.sub [0, 1, 2, 3] (by decide) rfl) hS
          exact lp_157 F (0 : Int32) (upd (upd (upd (upd m_now ((0 : Int32)).toNatClampNeg (0 : Int32)) ((1 : Int32)).toNatClampNeg (0 : Int32)) ((2 : Int32)).toNatClampNeg r1) ((3 : Int32)).toNatClampNeg r10) m_undos _ _ _ hM (lv_sub hl [1, 2, 4, 0] rfl) (hP.sub [0, 1, 2, 3] rfl) (hD.sub [0, 1, 2, 3] (by decide) rfl) hS
        · replace hM := sx_iff c27 hM
          refine lv_bipush (v := -20) hx hb dX5_court_118 (by decide) ?_
          refine lv_aload_n hx hb dX5_court_120 rfl (lv_at hl 0 rfl) ?_
          refine va_get (D := D) (ci := 5) (v := .int z25) (C := RX5) (T := TX5) (N := 17) hx hb hts hin_X5 hown hK hP 1 rfl rfl 3 (by decide) hf_120 (fun _ h9 => h9) rfl dX5_court_121 ?_
          refine lv_isub hx hb dX5_court_124 ?_
          obtain ⟨rfl, rfl, rfl, rfl, rfl, rfl, rfl⟩ := sx_o7 hM
          exact hret _ _ _ _ dX5_court_125 (hP.sub [1, 0, 2, 3] rfl) (hD.sub [1, 0, 2, 3] (by decide) rfl) hS
      refine lv_if_ne (tgt := 98) hx hb dX5_court_88 (by decide) (fun c46 => ?_) (fun c46 => ?_)
      · replace hM := sx_iff c46 hM
        refine lv_iconst (v := 1) hx hb dX5_court_98 (by decide) ?_
        refine lv_goto (tgt := 103) hx hb dX5_court_99 (by decide) ?_
        exact hk_103 (1 : Int32) w20 _ _ _ hM (lv_sub hl [1, 2, 3, 0] rfl) (hP.sub [0, 1, 2, 3] rfl) (hD.sub [0, 1, 2, 3] (by decide) rfl) hS
      · replace hM := sx_ift c46 hM
        refine lv_aload_n hx hb dX5_court_91 rfl (lv_at hl 1 rfl) ?_
        obtain ⟨r47, w48, hc49, hM⟩ := sx_c2_s hM
        refine sx_iV (As := []) (rest := [.ref m_h]) (wc := [(m_h, .inr (5, [.ref m_now_a, .ref m_tape_a, .int m_typed, .int w20, .int w21, .ref m_read_a, .ref m_heard_a, .ref m_undone_a, .int m_undos, .ref m_aside_a, .ref m_kept_a, .int m_keptUndos, .int m_isKept, .ref m_lanes_a, .ref m_sizes_a, .ref m_items_a, .ref m_moved_a])), (m_tape_a, .inl (cI, 70, .inl m_tape))]) (wr := [(m_now_a, .inl (cI, 65, .inl m_now)), (m_read_a, .inl (cI, 12, .inl w22))]) (w1 := [(m_h, .inr (5, [.ref m_now_a, .ref m_tape_a, .int m_typed, .int w48, .int w21, .ref m_read_a, .ref m_heard_a, .ref m_undone_a, .int m_undos, .ref m_aside_a, .ref m_kept_a, .int m_keptUndos, .int m_isKept, .ref m_lanes_a, .ref m_sizes_a, .ref m_items_a, .ref m_moved_a])), (m_tape_a, .inl (cI, 70, .inl m_tape))]) ⟨hx, hb, hml, hown, hts⟩ (mtX5_here l D cI cJ cS H.size m_h m_now_a m_tape_a m_read_a m_heard_a m_undone_a m_aside_a m_kept_a m_lanes_a m_sizes_a m_items_a m_moved_a m_tape m_typed w20 w21 m_undos m_keptUndos m_isKept F r47 w48 hc49) (cwV 0 hts gX5_court_X5_here rfl rfl rfl (by decide +kernel) ⟨Nat.le_trans (by decide) hRf, Nat.le_trans (by decide) hRl⟩) hK hN hP hD hS hA [1, 2] [0, 3] rfl (by decide) rfl (by decide) (by decide) rfl rfl rfl rfl hl.1 rfl (Nat.le_of_ble_eq_true rfl) dX5_court_92 hRc (fun H locs hP hD hS => ?_)
        have hP : va_P D vwCl [(m_now_a, .inl (cI, 65, .inl m_now)), (m_read_a, .inl (cI, 12, .inl w22)), (m_h, .inr (5, [.ref m_now_a, .ref m_tape_a, .int m_typed, .int w48, .int w21, .ref m_read_a, .ref m_heard_a, .ref m_undone_a, .int m_undos, .ref m_aside_a, .ref m_kept_a, .int m_keptUndos, .int m_isKept, .ref m_lanes_a, .ref m_sizes_a, .ref m_items_a, .ref m_moved_a])), (m_tape_a, .inl (cI, 70, .inl m_tape))] H := hP
        have hD : va_D A [(m_now_a, .inl (cI, 65, .inl m_now)), (m_read_a, .inl (cI, 12, .inl w22)), (m_h, .inr (5, [.ref m_now_a, .ref m_tape_a, .int m_typed, .int w48, .int w21, .ref m_read_a, .ref m_heard_a, .ref m_undone_a, .int m_undos, .ref m_aside_a, .ref m_kept_a, .int m_keptUndos, .int m_isKept, .ref m_lanes_a, .ref m_sizes_a, .ref m_items_a, .ref m_moved_a])), (m_tape_a, .inl (cI, 70, .inl m_tape))] := hD
        refine lv_if_eq (tgt := 102) hx hb dX5_court_95 (by decide) (fun c50 => ?_) (fun c50 => ?_)
        · replace hM := sx_ift c50 hM
          refine lv_iconst (v := 0) hx hb dX5_court_102 (by decide) ?_
          exact hk_103 (0 : Int32) w48 _ _ _ hM (lv_sub hl [1, 2, 3, 0] rfl) (hP.sub [0, 2, 3, 1] rfl) (hD.sub [0, 2, 3, 1] (by decide) rfl) hS
        · replace hM := sx_iff c50 hM
          refine lv_iconst (v := 1) hx hb dX5_court_98 (by decide) ?_
          refine lv_goto (tgt := 103) hx hb dX5_court_99 (by decide) ?_
          exact hk_103 (1 : Int32) w48 _ _ _ hM (lv_sub hl [1, 2, 3, 0] rfl) (hP.sub [0, 2, 3, 1] rfl) (hD.sub [0, 2, 3, 1] (by decide) rfl) hS
    refine lv_if_ne (tgt := 74) hx hb dX5_court_58 (by decide) (fun c51 => ?_) (fun c51 => ?_)
    · replace hM := sx_iff c51 hM
      refine lv_iconst (v := 0) hx hb dX5_court_74 (by decide) ?_
      exact hk_75 (0 : Int32) w11 _ _ _ hM (lv_sub hl [1, 2, 0] rfl) (hP.sub [0, 1, 2, 3] rfl) (hD.sub [0, 1, 2, 3] (by decide) rfl) hS
    · replace hM := sx_ift c51 hM
      refine lv_aload_n hx hb dX5_court_61 rfl (lv_at hl 1 rfl) ?_
      obtain ⟨r52, w53, hc54, hM⟩ := sx_c2_s hM
      refine sx_iV (As := []) (rest := [.ref m_h]) (wc := [(m_h, .inr (5, [.ref m_now_a, .ref m_tape_a, .int m_typed, .int w11, .int w12, .ref m_read_a, .ref m_heard_a, .ref m_undone_a, .int m_undos, .ref m_aside_a, .ref m_kept_a, .int m_keptUndos, .int m_isKept, .ref m_lanes_a, .ref m_sizes_a, .ref m_items_a, .ref m_moved_a])), (m_tape_a, .inl (cI, 70, .inl m_tape))]) (wr := [(m_now_a, .inl (cI, 65, .inl m_now)), (m_read_a, .inl (cI, 12, .inl m_read))]) (w1 := [(m_h, .inr (5, [.ref m_now_a, .ref m_tape_a, .int m_typed, .int w53, .int w12, .ref m_read_a, .ref m_heard_a, .ref m_undone_a, .int m_undos, .ref m_aside_a, .ref m_kept_a, .int m_keptUndos, .int m_isKept, .ref m_lanes_a, .ref m_sizes_a, .ref m_items_a, .ref m_moved_a])), (m_tape_a, .inl (cI, 70, .inl m_tape))]) ⟨hx, hb, hml, hown, hts⟩ (mtX5_here l D cI cJ cS H.size m_h m_now_a m_tape_a m_read_a m_heard_a m_undone_a m_aside_a m_kept_a m_lanes_a m_sizes_a m_items_a m_moved_a m_tape m_typed w11 w12 m_undos m_keptUndos m_isKept F r52 w53 hc54) (cwV 0 hts gX5_court_X5_here rfl rfl rfl (by decide +kernel) ⟨Nat.le_trans (by decide) hRf, Nat.le_trans (by decide) hRl⟩) hK hN hP hD hS hA [2, 3] [0, 1] rfl (by decide) rfl (by decide) (by decide) rfl rfl rfl rfl hl.1 rfl (Nat.le_of_ble_eq_true rfl) dX5_court_62 hRc (fun H locs hP hD hS => ?_)
      have hP : va_P D vwCl [(m_now_a, .inl (cI, 65, .inl m_now)), (m_read_a, .inl (cI, 12, .inl m_read)), (m_h, .inr (5, [.ref m_now_a, .ref m_tape_a, .int m_typed, .int w53, .int w12, .ref m_read_a, .ref m_heard_a, .ref m_undone_a, .int m_undos, .ref m_aside_a, .ref m_kept_a, .int m_keptUndos, .int m_isKept, .ref m_lanes_a, .ref m_sizes_a, .ref m_items_a, .ref m_moved_a])), (m_tape_a, .inl (cI, 70, .inl m_tape))] H := hP
      have hD : va_D A [(m_now_a, .inl (cI, 65, .inl m_now)), (m_read_a, .inl (cI, 12, .inl m_read)), (m_h, .inr (5, [.ref m_now_a, .ref m_tape_a, .int m_typed, .int w53, .int w12, .ref m_read_a, .ref m_heard_a, .ref m_undone_a, .int m_undos, .ref m_aside_a, .ref m_kept_a, .int m_keptUndos, .int m_isKept, .ref m_lanes_a, .ref m_sizes_a, .ref m_items_a, .ref m_moved_a])), (m_tape_a, .inl (cI, 70, .inl m_tape))] := hD
      refine lv_bipush (v := 59) hx hb dX5_court_65 (by decide) ?_
      refine lv_icmp_ne (tgt := 74) hx hb dX5_court_67 (by decide) (fun c55 => ?_) (fun c55 => ?_)
      · replace hM := sx_iff c55 hM
        refine lv_iconst (v := 0) hx hb dX5_court_74 (by decide) ?_
        exact hk_75 (0 : Int32) w53 _ _ _ hM (lv_sub hl [1, 2, 0] rfl) (hP.sub [0, 1, 2, 3] rfl) (hD.sub [0, 1, 2, 3] (by decide) rfl) hS
      · replace hM := sx_ift c55 hM
        refine lv_iconst (v := 1) hx hb dX5_court_70 (by decide) ?_
        refine lv_goto (tgt := 75) hx hb dX5_court_71 (by decide) ?_
        exact hk_75 (1 : Int32) w53 _ _ _ hM (lv_sub hl [1, 2, 0] rfl) (hP.sub [0, 1, 2, 3] rfl) (hD.sub [0, 1, 2, 3] (by decide) rfl) hS
  refine lv_if_ne (tgt := 40) hx hb dX5_court_24 (by decide) (fun c56 => ?_) (fun c56 => ?_)
  · replace hM := sx_iff c56 hM
    refine lv_iconst (v := 0) hx hb dX5_court_40 (by decide) ?_
    exact hk_41 (0 : Int32) w2 _ _ _ hM (lv_sub hl [1, 0] rfl) (hP.sub [0, 1, 2, 3] rfl) (hD.sub [0, 1, 2, 3] (by decide) rfl) hS
  · replace hM := sx_ift c56 hM
    refine lv_aload_n hx hb dX5_court_27 rfl (lv_at hl 1 rfl) ?_
    obtain ⟨r57, w58, hc59, hM⟩ := sx_c2_s hM
    refine sx_iV (As := []) (rest := [.ref m_h]) (wc := [(m_h, .inr (5, [.ref m_now_a, .ref m_tape_a, .int m_typed, .int w2, .int w3, .ref m_read_a, .ref m_heard_a, .ref m_undone_a, .int m_undos, .ref m_aside_a, .ref m_kept_a, .int m_keptUndos, .int m_isKept, .ref m_lanes_a, .ref m_sizes_a, .ref m_items_a, .ref m_moved_a])), (m_tape_a, .inl (cI, 70, .inl m_tape))]) (wr := [(m_now_a, .inl (cI, 65, .inl m_now)), (m_read_a, .inl (cI, 12, .inl m_read))]) (w1 := [(m_h, .inr (5, [.ref m_now_a, .ref m_tape_a, .int m_typed, .int w58, .int w3, .ref m_read_a, .ref m_heard_a, .ref m_undone_a, .int m_undos, .ref m_aside_a, .ref m_kept_a, .int m_keptUndos, .int m_isKept, .ref m_lanes_a, .ref m_sizes_a, .ref m_items_a, .ref m_moved_a])), (m_tape_a, .inl (cI, 70, .inl m_tape))]) ⟨hx, hb, hml, hown, hts⟩ (mtX5_here l D cI cJ cS H.size m_h m_now_a m_tape_a m_read_a m_heard_a m_undone_a m_aside_a m_kept_a m_lanes_a m_sizes_a m_items_a m_moved_a m_tape m_typed w2 w3 m_undos m_keptUndos m_isKept F r57 w58 hc59) (cwV 0 hts gX5_court_X5_here rfl rfl rfl (by decide +kernel) ⟨Nat.le_trans (by decide) hRf, Nat.le_trans (by decide) hRl⟩) hK hN hP hD hS hA [2, 3] [0, 1] rfl (by decide) rfl (by decide) (by decide) rfl rfl rfl rfl hl.1 rfl (Nat.le_of_ble_eq_true rfl) dX5_court_28 hRc (fun H locs hP hD hS => ?_)
    have hP : va_P D vwCl [(m_now_a, .inl (cI, 65, .inl m_now)), (m_read_a, .inl (cI, 12, .inl m_read)), (m_h, .inr (5, [.ref m_now_a, .ref m_tape_a, .int m_typed, .int w58, .int w3, .ref m_read_a, .ref m_heard_a, .ref m_undone_a, .int m_undos, .ref m_aside_a, .ref m_kept_a, .int m_keptUndos, .int m_isKept, .ref m_lanes_a, .ref m_sizes_a, .ref m_items_a, .ref m_moved_a])), (m_tape_a, .inl (cI, 70, .inl m_tape))] H := hP
    have hD : va_D A [(m_now_a, .inl (cI, 65, .inl m_now)), (m_read_a, .inl (cI, 12, .inl m_read)), (m_h, .inr (5, [.ref m_now_a, .ref m_tape_a, .int m_typed, .int w58, .int w3, .ref m_read_a, .ref m_heard_a, .ref m_undone_a, .int m_undos, .ref m_aside_a, .ref m_kept_a, .int m_keptUndos, .int m_isKept, .ref m_lanes_a, .ref m_sizes_a, .ref m_items_a, .ref m_moved_a])), (m_tape_a, .inl (cI, 70, .inl m_tape))] := hD
    refine lv_bipush (v := 47) hx hb dX5_court_31 (by decide) ?_
    refine lv_icmp_ne (tgt := 40) hx hb dX5_court_33 (by decide) (fun c60 => ?_) (fun c60 => ?_)
    · replace hM := sx_iff c60 hM
      refine lv_iconst (v := 0) hx hb dX5_court_40 (by decide) ?_
      exact hk_41 (0 : Int32) w58 _ _ _ hM (lv_sub hl [1, 0] rfl) (hP.sub [0, 1, 2, 3] rfl) (hD.sub [0, 1, 2, 3] (by decide) rfl) hS
    · replace hM := sx_ift c60 hM
      refine lv_iconst (v := 1) hx hb dX5_court_36 (by decide) ?_
      refine lv_goto (tgt := 41) hx hb dX5_court_37 (by decide) ?_
      exact hk_41 (1 : Int32) w58 _ _ _ hM (lv_sub hl [1, 0] rfl) (hP.sub [0, 1, 2, 3] rfl) (hD.sub [0, 1, 2, 3] (by decide) rfl) hS
set_option maxHeartbeats 4000000 in
set_option maxRecDepth 100000 in
theorem mtX5_court (l : Launch) (D : va_G) (cI cJ cS : ClassId) (sz : Nat) (m_h m_now_a m_tape_a m_read_a m_heard_a m_undone_a m_aside_a m_kept_a m_lanes_a m_sizes_a m_items_a m_moved_a : Nat) (m_now : Nat → Int32) (m_tape : Nat → Int32) (m_typed : Int32) (m_place : Int32) (m_isFault : Int32) (m_read : Nat → Int32) (m_undos : Int32) (m_keptUndos : Int32) (m_isKept : Int32) (F : Nat) (r0 : Int32) (w_m_now : Nat → Int32) (w_m_typed : Int32) (w_m_place : Int32) (w_m_isFault : Int32) (w_m_read : Nat → Int32) (w_m_undos : Int32) (hM : fnX5_court F m_now m_tape m_typed m_place m_isFault m_read m_undos = some (r0, w_m_now, w_m_typed, w_m_place, w_m_isFault, w_m_read, w_m_undos)) : sx_MI l yX5_court wsX5_court ({ frames := 3, cells := 0, slots := 0, locals := 70 }) D (sx_T cI cJ cS) sz [.ref m_h] [(m_h, .inr (5, [.ref m_now_a, .ref m_tape_a, .int m_typed, .int m_place, .int m_isFault, .ref m_read_a, .ref m_heard_a, .ref m_undone_a, .int m_undos, .ref m_aside_a, .ref m_kept_a, .int m_keptUndos, .int m_isKept, .ref m_lanes_a, .ref m_sizes_a, .ref m_items_a, .ref m_moved_a])), (m_now_a, .inl (cI, 65, .inl m_now)), (m_tape_a, .inl (cI, 70, .inl m_tape)), (m_read_a, .inl (cI, 12, .inl m_read))] r0 [(m_h, .inr (5, [.ref m_now_a, .ref m_tape_a, .int w_m_typed, .int w_m_place, .int w_m_isFault, .ref m_read_a, .ref m_heard_a, .ref m_undone_a, .int w_m_undos, .ref m_aside_a, .ref m_kept_a, .int m_keptUndos, .int m_isKept, .ref m_lanes_a, .ref m_sizes_a, .ref m_items_a, .ref m_moved_a])), (m_now_a, .inl (cI, 65, .inl w_m_now)), (m_tape_a, .inl (cI, 70, .inl m_tape)), (m_read_a, .inl (cI, 12, .inl w_m_read))] := by
  refine Met.ofW (cc := cX5_court) (maxL := 6) (ret := (some .int)) (by decide) rfl ?_
  intro p e s m args below meth c s₁ B hml hv
  obtain ⟨rfl, hsz, hN, hP, hK, hD0⟩ := hv
  subst hsz
  have hl := lv_entry ([.ref m_h]) (n := 6) (Nat.le_of_ble_eq_true rfl)
  rw [lg_entry_eq]
  generalize (lg_sl ([.ref m_h]) ++ List.replicate (6 - (lg_sl ([.ref m_h])).length) Slot.unset).toArray = ls at hl ⊢
  exact kwX5_court B.exec B.bytes hml (findClass_of_methodNamed B.named) (atoms_spec (ws := wsX5_court) B.pre) hN hK (fun q h => Or.inr h) (by decide) (by decide) ⟨Nat.zero_le _, Nat.zero_le _⟩ m_h m_now_a m_tape_a m_read_a m_heard_a m_undone_a m_aside_a m_kept_a m_lanes_a m_sizes_a m_items_a m_moved_a m_now m_tape m_typed m_place m_isFault m_read m_undos m_keptUndos m_isKept F r0 w_m_now w_m_typed w_m_place w_m_isFault w_m_read w_m_undos hM _ _ _ hl hP hD0.self va_S.rf (fun H1 locs1 ls1 pc1 hd hP hD hS => W.iret (v := r0) B.exec B.bytes B.returns (fun t ht hW => ⟨⟨r0, (), rfl, rfl, by rw [ht]; exact hP, hD⟩, hS.F ht⟩) hS.2.2 hd)

def fnX5_weakens (F : Nat) (m_now : Nat → Int32) (a1 : Int32) (a2 : Int32) : Option (Int32) :=
  sx_gd (sx_ib ((5 : Int32) + a1) 65) ((if (m_now (((5 : Int32) + a1)).toNatClampNeg) = (0 : Int32) then (some ((a2 / (2 : Int32)))) else (if (m_now (((5 : Int32) + a1)).toNatClampNeg) = (1 : Int32) then (some (((a2 / (2 : Int32)) + (1 : Int32)))) else (if (m_now (((5 : Int32) + a1)).toNatClampNeg) = (2 : Int32) then (some ((0 : Int32))) else (if (m_now (((5 : Int32) + a1)).toNatClampNeg) = (3 : Int32) then (if ((m_now ((1 : Int32)).toNatClampNeg) - (m_now ((1 : Int32)).toNatClampNeg) / (3 : Int32) * (3 : Int32)) = 0 then (some (((2 : Int32) * ((a2 / (2 : Int32)) + (1 : Int32))))) else (some (((a2 / (2 : Int32)) + (1 : Int32))))) else (some ((0 : Int32))))))))
set_option maxHeartbeats 4000000 in
set_option maxRecDepth 100000 in
theorem kwX5_weakens {p : Program} {l : Launch} {e : Env} {R : Room} {s : State} {m : MethodId} {args : Array Value} {below : List Frame} {meth : Method} {c : Code} {cells slots : Nat} {Q : State → Prop} {A : Nat → Prop} {H0 : Heap} {D : va_G} {cI cJ cS : ClassId} (hx : p.tables.exec = Jvm.exec) (hb : c.code = cX5_weakens) (hml : c.maxLocals = 3) (hown : s.vm.findClass RX5 = some m.cls) (hts : ∀ w ∈ wsX5_weakens, w.before args s = true) (hN : sx_N s) (hK : va_K D vwCl (sx_T cI cJ cS) s) (hA : ∀ q, H0.size ≤ q → A q) (hRf : 0 ≤ R.frames) (hRl : 0 ≤ R.locals) (hRc : cells ≤ R.cells ∧ slots ≤ R.slots) (m_h m_now_a m_tape_a m_read_a m_heard_a m_undone_a m_aside_a m_kept_a m_lanes_a m_sizes_a m_items_a m_moved_a : Nat) (m_now : Nat → Int32) (m_typed : Int32) (m_place : Int32) (m_isFault : Int32) (m_undos : Int32) (m_keptUndos : Int32) (m_isKept : Int32) (a1 : Int32) (a2 : Int32) (F : Nat) (r0 : Int32) (hM : fnX5_weakens F m_now a1 a2 = some r0) (H : Heap) (locs : List Loc) (ls : Array Slot) (hl : lv_has ls 3 [(0, .ref m_h), (1, .int a1), (2, .int a2)]) (hP : va_P D vwCl [(m_h, .inr (5, [.ref m_now_a, .ref m_tape_a, .int m_typed, .int m_place, .int m_isFault, .ref m_read_a, .ref m_heard_a, .ref m_undone_a, .int m_undos, .ref m_aside_a, .ref m_kept_a, .int m_keptUndos, .int m_isKept, .ref m_lanes_a, .ref m_sizes_a, .ref m_items_a, .ref m_moved_a])), (m_now_a, .inl (cI, 65, .inl m_now))] H) (hD : va_D A [(m_h, .inr (5, [.ref m_now_a, .ref m_tape_a, .int m_typed, .int m_place, .int m_isFault, .ref m_read_a, .ref m_heard_a, .ref m_undone_a, .int m_undos, .ref m_aside_a, .ref m_kept_a, .int m_keptUndos, .int m_isKept, .ref m_lanes_a, .ref m_sizes_a, .ref m_items_a, .ref m_moved_a])), (m_now_a, .inl (cI, 65, .inl m_now))]) (hS : va_S A H0 H locs)
    (hret : ∀ (H1 : Heap) (locs1 : List Loc) (ls1 : Array Slot) (pc1 : Nat), decode cX5_weakens pc1 = .ok (.ireturn, 1) → va_P D vwCl [(m_h, .inr (5, [.ref m_now_a, .ref m_tape_a, .int m_typed, .int m_place, .int m_isFault, .ref m_read_a, .ref m_heard_a, .ref m_undone_a, .int m_undos, .ref m_aside_a, .ref m_kept_a, .int m_keptUndos, .int m_isKept, .ref m_lanes_a, .ref m_sizes_a, .ref m_items_a, .ref m_moved_a])), (m_now_a, .inl (cI, 65, .inl m_now))] H1 → va_D A [(m_h, .inr (5, [.ref m_now_a, .ref m_tape_a, .int m_typed, .int m_place, .int m_isFault, .ref m_read_a, .ref m_heard_a, .ref m_undone_a, .int m_undos, .ref m_aside_a, .ref m_kept_a, .int m_keptUndos, .int m_isKept, .ref m_lanes_a, .ref m_sizes_a, .ref m_items_a, .ref m_moved_a])), (m_now_a, .inl (cI, 65, .inl m_now))] → va_S A H0 H1 locs1 → W p l e R s m args below meth c H1 locs1 cells slots Q (F0 m pc1 ls1 [.int r0])) : W p l e R s m args below meth c H locs cells slots Q (F0 m 0 ls []) := by
  have hf_7 := hts (.fieldLink RX5 7 "SealedLipsModel" "now" "[I") (by decide +kernel)
  have hin_X5 : ∀ w ∈ wsX50, w ∈ wsX5_weakens := by decide +kernel
  unfold fnX5_weakens at hM
  refine lv_aload_n hx hb dX5_weakens_0 rfl (lv_at hl 0 rfl) ?_
  refine va_get (D := D) (ci := 5) (v := .ref m_now_a) (C := RX5) (T := TX5) (N := 17) hx hb hts hin_X5 hown hK hP 0 rfl rfl 0 (by decide) hf_7 (fun _ h9 => h9) rfl dX5_weakens_1 ?_
  refine lv_iconst (v := 5) hx hb dX5_weakens_4 (by decide) ?_
  refine lv_iload_n hx hb dX5_weakens_5 rfl (lv_at hl 1 rfl) ?_
  refine lv_iadd hx hb dX5_weakens_6 ?_
  obtain ⟨g1, hM⟩ := sx_gd_s hM
  refine va_iald hx hb hK hP 1 0 rfl rfl (sx_ib_s g1) dX5_weakens_7 ?_
  by_cases c2 : (m_now (((5 : Int32) + a1)).toNatClampNeg) = (0 : Int32)
  · replace hM := sx_ift c2 hM
    refine lv_tableIn (off := 32) (tgt := 40) hx hb dX5_weakens_8 (by rw [c2]; decide) (by rw [c2]; decide) (by rw [c2]; decide) (by decide) ?_
    refine lv_iload_n hx hb dX5_weakens_40 rfl (lv_at hl 2 rfl) ?_
    refine lv_iconst (v := 2) hx hb dX5_weakens_41 (by decide) ?_
    refine lv_idiv hx hb dX5_weakens_42 (by decide) ?_
    obtain rfl := sx_o1 hM
    exact hret _ _ _ _ dX5_weakens_43 (hP.sub [0, 1] rfl) (hD.sub [0, 1] (by decide) rfl) hS
  · replace hM := sx_iff c2 hM
    have c2t : ¬ ((m_now (((5 : Int32) + a1)).toNatClampNeg)).toInt = 0 := fun h => c2 (Int32.toInt_inj.mp (h.trans (by decide)))
    by_cases c3 : (m_now (((5 : Int32) + a1)).toNatClampNeg) = (1 : Int32)
    · replace hM := sx_ift c3 hM
      refine lv_tableIn (off := 36) (tgt := 44) hx hb dX5_weakens_8 (by rw [c3]; decide) (by rw [c3]; decide) (by rw [c3]; decide) (by decide) ?_
      refine lv_iload_n hx hb dX5_weakens_44 rfl (lv_at hl 2 rfl) ?_
      refine lv_iconst (v := 2) hx hb dX5_weakens_45 (by decide) ?_
      refine lv_idiv hx hb dX5_weakens_46 (by decide) ?_
      refine lv_iconst (v := 1) hx hb dX5_weakens_47 (by decide) ?_
      refine lv_iadd hx hb dX5_weakens_48 ?_
      obtain rfl := sx_o1 hM
      exact hret _ _ _ _ dX5_weakens_49 (hP.sub [0, 1] rfl) (hD.sub [0, 1] (by decide) rfl) hS
    · replace hM := sx_iff c3 hM
      have c3t : ¬ ((m_now (((5 : Int32) + a1)).toNatClampNeg)).toInt = 1 := fun h => c3 (Int32.toInt_inj.mp (h.trans (by decide)))
      by_cases c4 : (m_now (((5 : Int32) + a1)).toNatClampNeg) = (2 : Int32)
      · replace hM := sx_ift c4 hM
        refine lv_tableIn (off := 69) (tgt := 77) hx hb dX5_weakens_8 (by rw [c4]; decide) (by rw [c4]; decide) (by rw [c4]; decide) (by decide) ?_
        refine lv_iconst (v := 0) hx hb dX5_weakens_77 (by decide) ?_
        obtain rfl := sx_o1 hM
        exact hret _ _ _ _ dX5_weakens_78 (hP.sub [0, 1] rfl) (hD.sub [0, 1] (by decide) rfl) hS
      · replace hM := sx_iff c4 hM
        have c4t : ¬ ((m_now (((5 : Int32) + a1)).toNatClampNeg)).toInt = 2 := fun h => c4 (Int32.toInt_inj.mp (h.trans (by decide)))
        by_cases c5 : (m_now (((5 : Int32) + a1)).toNatClampNeg) = (3 : Int32)
        · replace hM := sx_ift c5 hM
          refine lv_tableIn (off := 42) (tgt := 50) hx hb dX5_weakens_8 (by rw [c5]; decide) (by rw [c5]; decide) (by rw [c5]; decide) (by decide) ?_
          refine lv_aload_n hx hb dX5_weakens_50 rfl (lv_at hl 0 rfl) ?_
          refine va_get (D := D) (ci := 5) (v := .ref m_now_a) (C := RX5) (T := TX5) (N := 17) hx hb hts hin_X5 hown hK hP 0 rfl rfl 0 (by decide) hf_7 (fun _ h9 => h9) rfl dX5_weakens_51 ?_
          refine lv_iconst (v := 1) hx hb dX5_weakens_54 (by decide) ?_
          refine va_iald hx hb hK hP 1 0 rfl rfl (sx_ib_s (by decide)) dX5_weakens_55 ?_
          refine lv_iconst (v := 3) hx hb dX5_weakens_56 (by decide) ?_
          refine lv_irem hx hb dX5_weakens_57 (by decide) ?_
          refine lv_if_ne (tgt := 71) hx hb dX5_weakens_58 (by decide) (fun c6 => ?_) (fun c6 => ?_)
          · replace hM := sx_iff c6 hM
            refine lv_iload_n hx hb dX5_weakens_71 rfl (lv_at hl 2 rfl) ?_
            refine lv_iconst (v := 2) hx hb dX5_weakens_72 (by decide) ?_
            refine lv_idiv hx hb dX5_weakens_73 (by decide) ?_
            refine lv_iconst (v := 1) hx hb dX5_weakens_74 (by decide) ?_
            refine lv_iadd hx hb dX5_weakens_75 ?_
            obtain rfl := sx_o1 hM
            exact hret _ _ _ _ dX5_weakens_76 (hP.sub [0, 1] rfl) (hD.sub [0, 1] (by decide) rfl) hS
          · replace hM := sx_ift c6 hM
            refine lv_iconst (v := 2) hx hb dX5_weakens_61 (by decide) ?_
            refine lv_iload_n hx hb dX5_weakens_62 rfl (lv_at hl 2 rfl) ?_
            refine lv_iconst (v := 2) hx hb dX5_weakens_63 (by decide) ?_
            refine lv_idiv hx hb dX5_weakens_64 (by decide) ?_
            refine lv_iconst (v := 1) hx hb dX5_weakens_65 (by decide) ?_
            refine lv_iadd hx hb dX5_weakens_66 ?_
            refine lv_imul hx hb dX5_weakens_67 ?_
            refine lv_goto (tgt := 76) hx hb dX5_weakens_68 (by decide) ?_
            obtain rfl := sx_o1 hM
            exact hret _ _ _ _ dX5_weakens_76 (hP.sub [0, 1] rfl) (hD.sub [0, 1] (by decide) rfl) hS
        · replace hM := sx_iff c5 hM
          have c5t : ¬ ((m_now (((5 : Int32) + a1)).toNatClampNeg)).toInt = 3 := fun h => c5 (Int32.toInt_inj.mp (h.trans (by decide)))
          refine lv_tableOut (tgt := 77) hx hb dX5_weakens_8 (by omega) (by decide) ?_
          refine lv_iconst (v := 0) hx hb dX5_weakens_77 (by decide) ?_
          obtain rfl := sx_o1 hM
          exact hret _ _ _ _ dX5_weakens_78 (hP.sub [0, 1] rfl) (hD.sub [0, 1] (by decide) rfl) hS
set_option maxHeartbeats 4000000 in
set_option maxRecDepth 100000 in
theorem mtX5_weakens (l : Launch) (D : va_G) (cI cJ cS : ClassId) (sz : Nat) (m_h m_now_a m_tape_a m_read_a m_heard_a m_undone_a m_aside_a m_kept_a m_lanes_a m_sizes_a m_items_a m_moved_a : Nat) (m_now : Nat → Int32) (m_typed : Int32) (m_place : Int32) (m_isFault : Int32) (m_undos : Int32) (m_keptUndos : Int32) (m_isKept : Int32) (a1 : Int32) (a2 : Int32) (F : Nat) (r0 : Int32) (hM : fnX5_weakens F m_now a1 a2 = some r0) : sx_MI l yX5_weakens wsX5_weakens ({ frames := 0, cells := 0, slots := 0, locals := 0 }) D (sx_T cI cJ cS) sz [.ref m_h, .int a1, .int a2] [(m_h, .inr (5, [.ref m_now_a, .ref m_tape_a, .int m_typed, .int m_place, .int m_isFault, .ref m_read_a, .ref m_heard_a, .ref m_undone_a, .int m_undos, .ref m_aside_a, .ref m_kept_a, .int m_keptUndos, .int m_isKept, .ref m_lanes_a, .ref m_sizes_a, .ref m_items_a, .ref m_moved_a])), (m_now_a, .inl (cI, 65, .inl m_now))] r0 [(m_h, .inr (5, [.ref m_now_a, .ref m_tape_a, .int m_typed, .int m_place, .int m_isFault, .ref m_read_a, .ref m_heard_a, .ref m_undone_a, .int m_undos, .ref m_aside_a, .ref m_kept_a, .int m_keptUndos, .int m_isKept, .ref m_lanes_a, .ref m_sizes_a, .ref m_items_a, .ref m_moved_a])), (m_now_a, .inl (cI, 65, .inl m_now))] := by
  refine Met.ofW (cc := cX5_weakens) (maxL := 3) (ret := (some .int)) (by decide) rfl ?_
  intro p e s m args below meth c s₁ B hml hv
  obtain ⟨rfl, hsz, hN, hP, hK, hD0⟩ := hv
  subst hsz
  have hl := lv_entry ([.ref m_h, .int a1, .int a2]) (n := 3) (Nat.le_of_ble_eq_true rfl)
  rw [lg_entry_eq]
  generalize (lg_sl ([.ref m_h, .int a1, .int a2]) ++ List.replicate (3 - (lg_sl ([.ref m_h, .int a1, .int a2])).length) Slot.unset).toArray = ls at hl ⊢
  exact kwX5_weakens B.exec B.bytes hml (findClass_of_methodNamed B.named) (atoms_spec (ws := wsX5_weakens) B.pre) hN hK (fun q h => Or.inr h) (by decide) (by decide) ⟨Nat.zero_le _, Nat.zero_le _⟩ m_h m_now_a m_tape_a m_read_a m_heard_a m_undone_a m_aside_a m_kept_a m_lanes_a m_sizes_a m_items_a m_moved_a m_now m_typed m_place m_isFault m_undos m_keptUndos m_isKept a1 a2 F r0 hM _ _ _ hl hP hD0.self va_S.rf (fun H1 locs1 ls1 pc1 hd hP hD hS => W.iret (v := r0) B.exec B.bytes B.returns (fun t ht hW => ⟨⟨r0, (), rfl, rfl, by rw [ht]; exact hP, hD⟩, hS.F ht⟩) hS.2.2 hd)

def fnX5_isSilent (F : Nat) (m_now : Nat → Int32) (a1 : Int32) : Option (Int32) :=
  sx_gd (sx_ib ((5 : Int32) + a1) 65) ((if (m_now (((5 : Int32) + a1)).toNatClampNeg) = (2 : Int32) then (some ((1 : Int32))) else sx_gd (sx_ib ((5 : Int32) + a1) 65) ((if (m_now (((5 : Int32) + a1)).toNatClampNeg) = (4 : Int32) then (some ((1 : Int32))) else (some ((0 : Int32)))))))
set_option maxHeartbeats 4000000 in
set_option maxRecDepth 100000 in
theorem kwX5_isSilent {p : Program} {l : Launch} {e : Env} {R : Room} {s : State} {m : MethodId} {args : Array Value} {below : List Frame} {meth : Method} {c : Code} {cells slots : Nat} {Q : State → Prop} {A : Nat → Prop} {H0 : Heap} {D : va_G} {cI cJ cS : ClassId} (hx : p.tables.exec = Jvm.exec) (hb : c.code = cX5_isSilent) (hml : c.maxLocals = 2) (hown : s.vm.findClass RX5 = some m.cls) (hts : ∀ w ∈ wsX5_isSilent, w.before args s = true) (hN : sx_N s) (hK : va_K D vwCl (sx_T cI cJ cS) s) (hA : ∀ q, H0.size ≤ q → A q) (hRf : 0 ≤ R.frames) (hRl : 0 ≤ R.locals) (hRc : cells ≤ R.cells ∧ slots ≤ R.slots) (m_h m_now_a m_tape_a m_read_a m_heard_a m_undone_a m_aside_a m_kept_a m_lanes_a m_sizes_a m_items_a m_moved_a : Nat) (m_now : Nat → Int32) (m_typed : Int32) (m_place : Int32) (m_isFault : Int32) (m_undos : Int32) (m_keptUndos : Int32) (m_isKept : Int32) (a1 : Int32) (F : Nat) (r0 : Int32) (hM : fnX5_isSilent F m_now a1 = some r0) (H : Heap) (locs : List Loc) (ls : Array Slot) (hl : lv_has ls 2 [(0, .ref m_h), (1, .int a1)]) (hP : va_P D vwCl [(m_h, .inr (5, [.ref m_now_a, .ref m_tape_a, .int m_typed, .int m_place, .int m_isFault, .ref m_read_a, .ref m_heard_a, .ref m_undone_a, .int m_undos, .ref m_aside_a, .ref m_kept_a, .int m_keptUndos, .int m_isKept, .ref m_lanes_a, .ref m_sizes_a, .ref m_items_a, .ref m_moved_a])), (m_now_a, .inl (cI, 65, .inl m_now))] H) (hD : va_D A [(m_h, .inr (5, [.ref m_now_a, .ref m_tape_a, .int m_typed, .int m_place, .int m_isFault, .ref m_read_a, .ref m_heard_a, .ref m_undone_a, .int m_undos, .ref m_aside_a, .ref m_kept_a, .int m_keptUndos, .int m_isKept, .ref m_lanes_a, .ref m_sizes_a, .ref m_items_a, .ref m_moved_a])), (m_now_a, .inl (cI, 65, .inl m_now))]) (hS : va_S A H0 H locs)
    (hret : ∀ (H1 : Heap) (locs1 : List Loc) (ls1 : Array Slot) (pc1 : Nat), decode cX5_isSilent pc1 = .ok (.ireturn, 1) → narrow .boolean (.int r0) = .int r0 → va_P D vwCl [(m_h, .inr (5, [.ref m_now_a, .ref m_tape_a, .int m_typed, .int m_place, .int m_isFault, .ref m_read_a, .ref m_heard_a, .ref m_undone_a, .int m_undos, .ref m_aside_a, .ref m_kept_a, .int m_keptUndos, .int m_isKept, .ref m_lanes_a, .ref m_sizes_a, .ref m_items_a, .ref m_moved_a])), (m_now_a, .inl (cI, 65, .inl m_now))] H1 → va_D A [(m_h, .inr (5, [.ref m_now_a, .ref m_tape_a, .int m_typed, .int m_place, .int m_isFault, .ref m_read_a, .ref m_heard_a, .ref m_undone_a, .int m_undos, .ref m_aside_a, .ref m_kept_a, .int m_keptUndos, .int m_isKept, .ref m_lanes_a, .ref m_sizes_a, .ref m_items_a, .ref m_moved_a])), (m_now_a, .inl (cI, 65, .inl m_now))] → va_S A H0 H1 locs1 → W p l e R s m args below meth c H1 locs1 cells slots Q (F0 m pc1 ls1 [.int r0])) : W p l e R s m args below meth c H locs cells slots Q (F0 m 0 ls []) := by
  have hf_7 := hts (.fieldLink RX5 7 "SealedLipsModel" "now" "[I") (by decide +kernel)
  have hin_X5 : ∀ w ∈ wsX50, w ∈ wsX5_isSilent := by decide +kernel
  unfold fnX5_isSilent at hM
  refine lv_aload_n hx hb dX5_isSilent_0 rfl (lv_at hl 0 rfl) ?_
  refine va_get (D := D) (ci := 5) (v := .ref m_now_a) (C := RX5) (T := TX5) (N := 17) hx hb hts hin_X5 hown hK hP 0 rfl rfl 0 (by decide) hf_7 (fun _ h9 => h9) rfl dX5_isSilent_1 ?_
  refine lv_iconst (v := 5) hx hb dX5_isSilent_4 (by decide) ?_
  refine lv_iload_n hx hb dX5_isSilent_5 rfl (lv_at hl 1 rfl) ?_
  refine lv_iadd hx hb dX5_isSilent_6 ?_
  obtain ⟨g1, hM⟩ := sx_gd_s hM
  refine va_iald hx hb hK hP 1 0 rfl rfl (sx_ib_s g1) dX5_isSilent_7 ?_
  refine lv_iconst (v := 2) hx hb dX5_isSilent_8 (by decide) ?_
  refine lv_icmp_eq (tgt := 24) hx hb dX5_isSilent_9 (by decide) (fun c2 => ?_) (fun c2 => ?_)
  · replace hM := sx_ift c2 hM
    refine lv_iconst (v := 1) hx hb dX5_isSilent_24 (by decide) ?_
    refine lv_goto (tgt := 29) hx hb dX5_isSilent_25 (by decide) ?_
    obtain rfl := sx_o1 hM
    exact hret _ _ _ _ dX5_isSilent_29 rfl (hP.sub [0, 1] rfl) (hD.sub [0, 1] (by decide) rfl) hS
  · replace hM := sx_iff c2 hM
    refine lv_aload_n hx hb dX5_isSilent_12 rfl (lv_at hl 0 rfl) ?_
    refine va_get (D := D) (ci := 5) (v := .ref m_now_a) (C := RX5) (T := TX5) (N := 17) hx hb hts hin_X5 hown hK hP 0 rfl rfl 0 (by decide) hf_7 (fun _ h9 => h9) rfl dX5_isSilent_13 ?_
    refine lv_iconst (v := 5) hx hb dX5_isSilent_16 (by decide) ?_
    refine lv_iload_n hx hb dX5_isSilent_17 rfl (lv_at hl 1 rfl) ?_
    refine lv_iadd hx hb dX5_isSilent_18 ?_
    obtain ⟨g3, hM⟩ := sx_gd_s hM
    refine va_iald hx hb hK hP 1 0 rfl rfl (sx_ib_s g3) dX5_isSilent_19 ?_
    refine lv_iconst (v := 4) hx hb dX5_isSilent_20 (by decide) ?_
    refine lv_icmp_ne (tgt := 28) hx hb dX5_isSilent_21 (by decide) (fun c4 => ?_) (fun c4 => ?_)
    · replace hM := sx_iff c4 hM
      refine lv_iconst (v := 0) hx hb dX5_isSilent_28 (by decide) ?_
      obtain rfl := sx_o1 hM
      exact hret _ _ _ _ dX5_isSilent_29 rfl (hP.sub [0, 1] rfl) (hD.sub [0, 1] (by decide) rfl) hS
    · replace hM := sx_ift c4 hM
      refine lv_iconst (v := 1) hx hb dX5_isSilent_24 (by decide) ?_
      refine lv_goto (tgt := 29) hx hb dX5_isSilent_25 (by decide) ?_
      obtain rfl := sx_o1 hM
      exact hret _ _ _ _ dX5_isSilent_29 rfl (hP.sub [0, 1] rfl) (hD.sub [0, 1] (by decide) rfl) hS
set_option maxHeartbeats 4000000 in
set_option maxRecDepth 100000 in
theorem mtX5_isSilent (l : Launch) (D : va_G) (cI cJ cS : ClassId) (sz : Nat) (m_h m_now_a m_tape_a m_read_a m_heard_a m_undone_a m_aside_a m_kept_a m_lanes_a m_sizes_a m_items_a m_moved_a : Nat) (m_now : Nat → Int32) (m_typed : Int32) (m_place : Int32) (m_isFault : Int32) (m_undos : Int32) (m_keptUndos : Int32) (m_isKept : Int32) (a1 : Int32) (F : Nat) (r0 : Int32) (hM : fnX5_isSilent F m_now a1 = some r0) : sx_MI l yX5_isSilent wsX5_isSilent ({ frames := 0, cells := 0, slots := 0, locals := 0 }) D (sx_T cI cJ cS) sz [.ref m_h, .int a1] [(m_h, .inr (5, [.ref m_now_a, .ref m_tape_a, .int m_typed, .int m_place, .int m_isFault, .ref m_read_a, .ref m_heard_a, .ref m_undone_a, .int m_undos, .ref m_aside_a, .ref m_kept_a, .int m_keptUndos, .int m_isKept, .ref m_lanes_a, .ref m_sizes_a, .ref m_items_a, .ref m_moved_a])), (m_now_a, .inl (cI, 65, .inl m_now))] r0 [(m_h, .inr (5, [.ref m_now_a, .ref m_tape_a, .int m_typed, .int m_place, .int m_isFault, .ref m_read_a, .ref m_heard_a, .ref m_undone_a, .int m_undos, .ref m_aside_a, .ref m_kept_a, .int m_keptUndos, .int m_isKept, .ref m_lanes_a, .ref m_sizes_a, .ref m_items_a, .ref m_moved_a])), (m_now_a, .inl (cI, 65, .inl m_now))] := by
  refine Met.ofW (cc := cX5_isSilent) (maxL := 2) (ret := (some .boolean)) (by decide) rfl ?_
  intro p e s m args below meth c s₁ B hml hv
  obtain ⟨rfl, hsz, hN, hP, hK, hD0⟩ := hv
  subst hsz
  have hl := lv_entry ([.ref m_h, .int a1]) (n := 2) (Nat.le_of_ble_eq_true rfl)
  rw [lg_entry_eq]
  generalize (lg_sl ([.ref m_h, .int a1]) ++ List.replicate (2 - (lg_sl ([.ref m_h, .int a1])).length) Slot.unset).toArray = ls at hl ⊢
  exact kwX5_isSilent B.exec B.bytes hml (findClass_of_methodNamed B.named) (atoms_spec (ws := wsX5_isSilent) B.pre) hN hK (fun q h => Or.inr h) (by decide) (by decide) ⟨Nat.zero_le _, Nat.zero_le _⟩ m_h m_now_a m_tape_a m_read_a m_heard_a m_undone_a m_aside_a m_kept_a m_lanes_a m_sizes_a m_items_a m_moved_a m_now m_typed m_place m_isFault m_undos m_keptUndos m_isKept a1 F r0 hM _ _ _ hl hP hD0.self va_S.rf (fun H1 locs1 ls1 pc1 hd hz hP hD hS => W.zret (v := r0) B.exec B.bytes B.returns hz (fun t ht hW => ⟨⟨r0, (), rfl, rfl, by rw [ht]; exact hP, hD⟩, hS.F ht⟩) hS.2.2 hd)

def bdX5_renews_3 (F : Nat) (x1_ : Int32) (r_ : Int32 → (Nat → Int32) → Option ((Nat → Int32))) (x2_ : Int32) (m_now : Nat → Int32) : Option ((Nat → Int32)) :=
  (if ((17 : Int32) + ((8 : Int32) * (m_now ((0 : Int32)).toNatClampNeg))) ≤ x2_ then (some (m_now)) else sx_gd (sx_ib x2_ 65) (sx_lt (fun (y5 : Int32) => sx_gd (sx_ib x2_ 65) (sx_nm (x2_ + (1 : Int32)) (fun (v7 : Int32) => (r_ v7 (upd m_now (x2_).toNatClampNeg y5))))) (fun (k_38 : Int32 → Option ((Nat → Int32))) => (if 0 ≤ (m_now (x2_).toNatClampNeg) then (k_38 x1_) else (k_38 (-1 : Int32))))))
def fnX5_renews (F : Nat) (m_now : Nat → Int32) (a1 : Int32) : Option ((Nat → Int32)) :=
  sx_lp2 (bdX5_renews_3 F a1) F (17 : Int32) m_now
set_option maxHeartbeats 4000000 in
set_option maxRecDepth 100000 in
theorem kwX5_renews {p : Program} {l : Launch} {e : Env} {R : Room} {s : State} {m : MethodId} {args : Array Value} {below : List Frame} {meth : Method} {c : Code} {cells slots : Nat} {Q : State → Prop} {A : Nat → Prop} {H0 : Heap} {D : va_G} {cI cJ cS : ClassId} (hx : p.tables.exec = Jvm.exec) (hb : c.code = cX5_renews) (hml : c.maxLocals = 3) (hown : s.vm.findClass RX5 = some m.cls) (hts : ∀ w ∈ wsX5_renews, w.before args s = true) (hN : sx_N s) (hK : va_K D vwCl (sx_T cI cJ cS) s) (hA : ∀ q, H0.size ≤ q → A q) (hRf : 0 ≤ R.frames) (hRl : 0 ≤ R.locals) (hRc : cells ≤ R.cells ∧ slots ≤ R.slots) (m_h m_now_a m_tape_a m_read_a m_heard_a m_undone_a m_aside_a m_kept_a m_lanes_a m_sizes_a m_items_a m_moved_a : Nat) (m_now : Nat → Int32) (m_typed : Int32) (m_place : Int32) (m_isFault : Int32) (m_undos : Int32) (m_keptUndos : Int32) (m_isKept : Int32) (a1 : Int32) (F : Nat) (w_m_now : Nat → Int32) (hM : fnX5_renews F m_now a1 = some w_m_now) (H : Heap) (locs : List Loc) (ls : Array Slot) (hl : lv_has ls 3 [(0, .ref m_h), (1, .int a1)]) (hP : va_P D vwCl [(m_h, .inr (5, [.ref m_now_a, .ref m_tape_a, .int m_typed, .int m_place, .int m_isFault, .ref m_read_a, .ref m_heard_a, .ref m_undone_a, .int m_undos, .ref m_aside_a, .ref m_kept_a, .int m_keptUndos, .int m_isKept, .ref m_lanes_a, .ref m_sizes_a, .ref m_items_a, .ref m_moved_a])), (m_now_a, .inl (cI, 65, .inl m_now))] H) (hD : va_D A [(m_h, .inr (5, [.ref m_now_a, .ref m_tape_a, .int m_typed, .int m_place, .int m_isFault, .ref m_read_a, .ref m_heard_a, .ref m_undone_a, .int m_undos, .ref m_aside_a, .ref m_kept_a, .int m_keptUndos, .int m_isKept, .ref m_lanes_a, .ref m_sizes_a, .ref m_items_a, .ref m_moved_a])), (m_now_a, .inl (cI, 65, .inl m_now))]) (hS : va_S A H0 H locs)
    (hret : ∀ (H1 : Heap) (locs1 : List Loc) (ls1 : Array Slot) (pc1 : Nat), decode cX5_renews pc1 = .ok (.return_, 1) → va_P D vwCl [(m_h, .inr (5, [.ref m_now_a, .ref m_tape_a, .int m_typed, .int m_place, .int m_isFault, .ref m_read_a, .ref m_heard_a, .ref m_undone_a, .int m_undos, .ref m_aside_a, .ref m_kept_a, .int m_keptUndos, .int m_isKept, .ref m_lanes_a, .ref m_sizes_a, .ref m_items_a, .ref m_moved_a])), (m_now_a, .inl (cI, 65, .inl w_m_now))] H1 → va_D A [(m_h, .inr (5, [.ref m_now_a, .ref m_tape_a, .int m_typed, .int m_place, .int m_isFault, .ref m_read_a, .ref m_heard_a, .ref m_undone_a, .int m_undos, .ref m_aside_a, .ref m_kept_a, .int m_keptUndos, .int m_isKept, .ref m_lanes_a, .ref m_sizes_a, .ref m_items_a, .ref m_moved_a])), (m_now_a, .inl (cI, 65, .inl w_m_now))] → va_S A H0 H1 locs1 → W p l e R s m args below meth c H1 locs1 cells slots Q (F0 m pc1 ls1 [])) : W p l e R s m args below meth c H locs cells slots Q (F0 m 0 ls []) := by
  have hf_7 := hts (.fieldLink RX5 7 "SealedLipsModel" "now" "[I") (by decide +kernel)
  have hin_X5 : ∀ w ∈ wsX50, w ∈ wsX5_renews := by decide +kernel
  unfold fnX5_renews at hM
  refine lv_bipush (v := 17) hx hb dX5_renews_0 (by decide) ?_
  refine lv_istore_n (lv' := [(2, .int (17 : Int32)), (0, .ref m_h), (1, .int a1)]) hx hb dX5_renews_2 rfl hl (by decide) rfl (fun ls hl => ?_)
  have lp_3 : ∀ (n : Nat) (x1 : Int32) (z2 : Nat → Int32) (H : Heap) (locs : List Loc) (ls : Array Slot), sx_lp2 (bdX5_renews_3 F a1) n x1 z2 = some w_m_now → lv_has ls 3 [(0, .ref m_h), (1, .int a1), (2, .int x1)] → va_P D vwCl [(m_h, .inr (5, [.ref m_now_a, .ref m_tape_a, .int m_typed, .int m_place, .int m_isFault, .ref m_read_a, .ref m_heard_a, .ref m_undone_a, .int m_undos, .ref m_aside_a, .ref m_kept_a, .int m_keptUndos, .int m_isKept, .ref m_lanes_a, .ref m_sizes_a, .ref m_items_a, .ref m_moved_a])), (m_now_a, .inl (cI, 65, .inl z2))] H → va_D A [(m_h, .inr (5, [.ref m_now_a, .ref m_tape_a, .int m_typed, .int m_place, .int m_isFault, .ref m_read_a, .ref m_heard_a, .ref m_undone_a, .int m_undos, .ref m_aside_a, .ref m_kept_a, .int m_keptUndos, .int m_isKept, .ref m_lanes_a, .ref m_sizes_a, .ref m_items_a, .ref m_moved_a])), (m_now_a, .inl (cI, 65, .inl z2))] → va_S A H0 H locs → W p l e R s m args below meth c H locs cells slots Q (F0 m 3 ls ([])) := by
    intro n
    induction n with
    | zero => intro x1 z2 H locs ls hM; exact (sx_lp2_0 hM).elim
    | succ n ih =>
      intro x1 z2 H locs ls hM hl hP hD hS
      have hM : bdX5_renews_3 F a1 (sx_lp2 (bdX5_renews_3 F a1) n) x1 z2 = some w_m_now := hM
      generalize sx_lp2 (bdX5_renews_3 F a1) n = r_3 at hM ih
      unfold bdX5_renews_3 at hM
      refine lv_iload_n hx hb dX5_renews_3 rfl (lv_at hl 2 rfl) ?_
      refine lv_bipush (v := 17) hx hb dX5_renews_4 (by decide) ?_
      refine lv_bipush (v := 8) hx hb dX5_renews_6 (by decide) ?_
      refine lv_aload_n hx hb dX5_renews_8 rfl (lv_at hl 0 rfl) ?_
      refine va_get (D := D) (ci := 5) (v := .ref m_now_a) (C := RX5) (T := TX5) (N := 17) hx hb hts hin_X5 hown hK hP 0 rfl rfl 0 (by decide) hf_7 (fun _ h9 => h9) rfl dX5_renews_9 ?_
      refine lv_iconst (v := 0) hx hb dX5_renews_12 (by decide) ?_
      refine va_iald hx hb hK hP 1 0 rfl rfl (sx_ib_s (by decide)) dX5_renews_13 ?_
      refine lv_imul hx hb dX5_renews_14 ?_
      refine lv_iadd hx hb dX5_renews_15 ?_
      refine lv_icmp_ge (tgt := 45) hx hb dX5_renews_16 (by decide) (fun c3 => ?_) (fun c3 => ?_)
      · replace hM := sx_ift c3 hM
        obtain rfl := sx_o1 hM
        exact hret _ _ _ _ dX5_renews_45 (hP.sub [0, 1] rfl) (hD.sub [0, 1] (by decide) rfl) hS
      · replace hM := sx_iff c3 hM
        refine lv_aload_n hx hb dX5_renews_19 rfl (lv_at hl 0 rfl) ?_
        refine va_get (D := D) (ci := 5) (v := .ref m_now_a) (C := RX5) (T := TX5) (N := 17) hx hb hts hin_X5 hown hK hP 0 rfl rfl 0 (by decide) hf_7 (fun _ h9 => h9) rfl dX5_renews_20 ?_
        refine lv_iload_n hx hb dX5_renews_23 rfl (lv_at hl 2 rfl) ?_
        refine lv_aload_n hx hb dX5_renews_24 rfl (lv_at hl 0 rfl) ?_
        refine va_get (D := D) (ci := 5) (v := .ref m_now_a) (C := RX5) (T := TX5) (N := 17) hx hb hts hin_X5 hown hK hP 0 rfl rfl 0 (by decide) hf_7 (fun _ h9 => h9) rfl dX5_renews_25 ?_
        refine lv_iload_n hx hb dX5_renews_28 rfl (lv_at hl 2 rfl) ?_
        obtain ⟨g4, hM⟩ := sx_gd_s hM
        refine va_iald hx hb hK hP 1 0 rfl rfl (sx_ib_s g4) dX5_renews_29 ?_
        obtain ⟨k_38, ek_38, hM⟩ := sx_lt_s hM
        have hk_38 : ∀ (y5 : Int32) (H : Heap) (locs : List Loc) (ls : Array Slot), k_38 y5 = some w_m_now → lv_has ls 3 [(0, .ref m_h), (1, .int a1), (2, .int x1)] → va_P D vwCl [(m_h, .inr (5, [.ref m_now_a, .ref m_tape_a, .int m_typed, .int m_place, .int m_isFault, .ref m_read_a, .ref m_heard_a, .ref m_undone_a, .int m_undos, .ref m_aside_a, .ref m_kept_a, .int m_keptUndos, .int m_isKept, .ref m_lanes_a, .ref m_sizes_a, .ref m_items_a, .ref m_moved_a])), (m_now_a, .inl (cI, 65, .inl z2))] H → va_D A [(m_h, .inr (5, [.ref m_now_a, .ref m_tape_a, .int m_typed, .int m_place, .int m_isFault, .ref m_read_a, .ref m_heard_a, .ref m_undone_a, .int m_undos, .ref m_aside_a, .ref m_kept_a, .int m_keptUndos, .int m_isKept, .ref m_lanes_a, .ref m_sizes_a, .ref m_items_a, .ref m_moved_a])), (m_now_a, .inl (cI, 65, .inl z2))] → va_S A H0 H locs → W p l e R s m args below meth c H locs cells slots Q (F0 m 38 ls (.int y5 :: .int x1 :: .ref m_now_a :: [])) := by
          intro y5 H locs ls hM hl hP hD hS
          rw [ek_38] at hM
          obtain ⟨g6, hM⟩ := sx_gd_s hM
          refine va_iast hx hb hK hP hD hS 1 0 rfl rfl (sx_ib_s g6) dX5_renews_38 (fun H locs hP hD hS => ?_)
          have hP : va_P D vwCl [(m_h, .inr (5, [.ref m_now_a, .ref m_tape_a, .int m_typed, .int m_place, .int m_isFault, .ref m_read_a, .ref m_heard_a, .ref m_undone_a, .int m_undos, .ref m_aside_a, .ref m_kept_a, .int m_keptUndos, .int m_isKept, .ref m_lanes_a, .ref m_sizes_a, .ref m_items_a, .ref m_moved_a])), (m_now_a, .inl (cI, 65, .inl (upd z2 (x1).toNatClampNeg y5)))] H := hP
          have hD : va_D A [(m_h, .inr (5, [.ref m_now_a, .ref m_tape_a, .int m_typed, .int m_place, .int m_isFault, .ref m_read_a, .ref m_heard_a, .ref m_undone_a, .int m_undos, .ref m_aside_a, .ref m_kept_a, .int m_keptUndos, .int m_isKept, .ref m_lanes_a, .ref m_sizes_a, .ref m_items_a, .ref m_moved_a])), (m_now_a, .inl (cI, 65, .inl (upd z2 (x1).toNatClampNeg y5)))] := hD
          obtain ⟨v7, ev7, hM⟩ := sx_nm_s hM
          refine lv_iinc (v := v7) (lv' := [(2, .int v7), (0, .ref m_h), (1, .int a1)]) hx hb dX5_renews_39 hl (k := 2) rfl (by rw [ev7]; rfl) (by decide) rfl (fun ls hl => ?_)
          refine lv_goto (tgt := 3) hx hb dX5_renews_42 (by decide) ?_
          exact ih v7 (upd z2 (x1).toNatClampNeg y5) _ _ _ hM (lv_sub hl [1, 2, 0] rfl) (hP.sub [0, 1] rfl) (hD.sub [0, 1] (by decide) rfl) hS
        refine lv_if_ge (tgt := 37) hx hb dX5_renews_30 (by decide) (fun c8 => ?_) (fun c8 => ?_)
        · replace hM := sx_ift c8 hM
          refine lv_iload_n hx hb dX5_renews_37 rfl (lv_at hl 1 rfl) ?_
          exact hk_38 a1 _ _ _ hM (lv_sub hl [0, 1, 2] rfl) (hP.sub [0, 1] rfl) (hD.sub [0, 1] (by decide) rfl) hS
        · replace hM := sx_iff c8 hM
          refine lv_iconst (v := -1) hx hb dX5_renews_33 (by decide) ?_
          refine lv_goto (tgt := 38) hx hb dX5_renews_34 (by decide) ?_
          exact hk_38 (-1 : Int32) _ _ _ hM (lv_sub hl [0, 1, 2] rfl) (hP.sub [0, 1] rfl) (hD.sub [0, 1] (by decide) rfl) hS
  exact lp_3 F (17 : Int32) m_now _ _ _ hM (lv_sub hl [1, 2, 0] rfl) (hP.sub [0, 1] rfl) (hD.sub [0, 1] (by decide) rfl) hS
set_option maxHeartbeats 4000000 in
set_option maxRecDepth 100000 in
theorem mtX5_renews (l : Launch) (D : va_G) (cI cJ cS : ClassId) (sz : Nat) (m_h m_now_a m_tape_a m_read_a m_heard_a m_undone_a m_aside_a m_kept_a m_lanes_a m_sizes_a m_items_a m_moved_a : Nat) (m_now : Nat → Int32) (m_typed : Int32) (m_place : Int32) (m_isFault : Int32) (m_undos : Int32) (m_keptUndos : Int32) (m_isKept : Int32) (a1 : Int32) (F : Nat) (w_m_now : Nat → Int32) (hM : fnX5_renews F m_now a1 = some w_m_now) : sx_MV l yX5_renews wsX5_renews ({ frames := 0, cells := 0, slots := 0, locals := 0 }) D (sx_T cI cJ cS) sz [.ref m_h, .int a1] [(m_h, .inr (5, [.ref m_now_a, .ref m_tape_a, .int m_typed, .int m_place, .int m_isFault, .ref m_read_a, .ref m_heard_a, .ref m_undone_a, .int m_undos, .ref m_aside_a, .ref m_kept_a, .int m_keptUndos, .int m_isKept, .ref m_lanes_a, .ref m_sizes_a, .ref m_items_a, .ref m_moved_a])), (m_now_a, .inl (cI, 65, .inl m_now))] [(m_h, .inr (5, [.ref m_now_a, .ref m_tape_a, .int m_typed, .int m_place, .int m_isFault, .ref m_read_a, .ref m_heard_a, .ref m_undone_a, .int m_undos, .ref m_aside_a, .ref m_kept_a, .int m_keptUndos, .int m_isKept, .ref m_lanes_a, .ref m_sizes_a, .ref m_items_a, .ref m_moved_a])), (m_now_a, .inl (cI, 65, .inl w_m_now))] := by
  refine Met.ofW (cc := cX5_renews) (maxL := 3) (ret := none) (by decide) rfl ?_
  intro p e s m args below meth c s₁ B hml hv
  obtain ⟨rfl, hsz, hN, hP, hK, hD0⟩ := hv
  subst hsz
  have hl := lv_entry ([.ref m_h, .int a1]) (n := 3) (Nat.le_of_ble_eq_true rfl)
  rw [lg_entry_eq]
  generalize (lg_sl ([.ref m_h, .int a1]) ++ List.replicate (3 - (lg_sl ([.ref m_h, .int a1])).length) Slot.unset).toArray = ls at hl ⊢
  exact kwX5_renews B.exec B.bytes hml (findClass_of_methodNamed B.named) (atoms_spec (ws := wsX5_renews) B.pre) hN hK (fun q h => Or.inr h) (by decide) (by decide) ⟨Nat.zero_le _, Nat.zero_le _⟩ m_h m_now_a m_tape_a m_read_a m_heard_a m_undone_a m_aside_a m_kept_a m_lanes_a m_sizes_a m_items_a m_moved_a m_now m_typed m_place m_isFault m_undos m_keptUndos m_isKept a1 F w_m_now hM _ _ _ hl hP hD0.self va_S.rf (fun H1 locs1 ls1 pc1 hd hP hD hS => W.vret B.exec B.bytes B.returns (fun t ht hW => ⟨⟨(), rfl, trivial, by rw [ht]; exact hP, hD⟩, hS.F ht⟩) hS.2.2 hd)

def bdX5_goesBy_201 (F : Nat) (x2_ : Int32) (m_heard : Nat → Int32) (kf_284 : (Nat → Int32) → Option ((Nat → Int32) × (Nat → Int32))) (r_ : Int32 → (Nat → Int32) → Option ((Nat → Int32) × (Nat → Int32))) (x3_ : Int32) (m_now : Nat → Int32) : Option ((Nat → Int32) × (Nat → Int32)) :=
  (if (8 : Int32) ≤ x3_ then (kf_284 m_now) else sx_gd (sx_ib x3_ 8) (sx_lt (fun (y17 : Int32) => sx_lt (fun (y18 : Int32) => sx_gd (sx_ib (((17 : Int32) + ((8 : Int32) * x2_)) + x3_) 65) (sx_nm (x3_ + (1 : Int32)) (fun (v20 : Int32) => (r_ v20 (upd m_now ((((17 : Int32) + ((8 : Int32) * x2_)) + x3_)).toNatClampNeg y18))))) (fun (k_277 : Int32 → Option ((Nat → Int32) × (Nat → Int32))) => (if y17 = 0 then sx_c1 (fnX5_sealOf F m_now x2_ x3_) (fun (r22 : Int32) => (k_277 r22)) else (k_277 (0 : Int32))))) (fun (k_247 : Int32 → Option ((Nat → Int32) × (Nat → Int32))) => (if (((m_heard (x3_).toNatClampNeg) >>> (x2_ &&& 31)) &&& (1 : Int32)) = (1 : Int32) then sx_c1 (fnX5_knows F m_now x2_ x3_) (fun (r25 : Int32) => (if r25 = 0 then sx_gd (sx_ib ((5 : Int32) + x2_) 65) ((if (m_now (((5 : Int32) + x2_)).toNatClampNeg) = (4 : Int32) then (k_247 (0 : Int32)) else (k_247 (1 : Int32)))) else (k_247 (0 : Int32)))) else (k_247 (0 : Int32))))))
def bdX5_goesBy_189 (F : Nat) (m_heard : Nat → Int32) (kf_290 : (Nat → Int32) → Option ((Nat → Int32) × (Nat → Int32))) (r_ : Int32 → (Nat → Int32) → Option ((Nat → Int32) × (Nat → Int32))) (x2_ : Int32) (m_now : Nat → Int32) : Option ((Nat → Int32) × (Nat → Int32)) :=
  (if (m_now ((0 : Int32)).toNatClampNeg) ≤ x2_ then (kf_290 m_now) else sx_lt (fun (z11 : Nat → Int32) => sx_nm (x2_ + (1 : Int32)) (fun (v12 : Int32) => (r_ v12 z11))) (fun (k_284 : (Nat → Int32) → Option ((Nat → Int32) × (Nat → Int32))) => sx_lp2 (bdX5_goesBy_201 F x2_ m_heard k_284) F (0 : Int32) m_now))
def bdX5_goesBy_115 (F : Nat) (x2_ : Int32) (m_now : Nat → Int32) (kf_181 : (Nat → Int32) → Option ((Nat → Int32) × (Nat → Int32))) (r_ : Int32 → (Nat → Int32) → Option ((Nat → Int32) × (Nat → Int32))) (x3_ : Int32) (m_heard : Nat → Int32) : Option ((Nat → Int32) × (Nat → Int32)) :=
  (if (m_now ((0 : Int32)).toNatClampNeg) ≤ x3_ then (kf_181 m_heard) else sx_c1 (fnX5_sealOf F m_now x3_ x2_) (fun (r39 : Int32) => sx_lt (fun (z41 : Nat → Int32) => sx_nm (x3_ + (1 : Int32)) (fun (v42 : Int32) => (r_ v42 z41))) (fun (k_175 : (Nat → Int32) → Option ((Nat → Int32) × (Nat → Int32))) => (if r39 = 0 then sx_c1 (fnX5_isSilent F m_now x3_) (fun (r44 : Int32) => (if r44 = 0 then sx_gd (sx_ib x2_ 8) (sx_c1 (fnX5_beside F m_now x3_ (1 : Int32)) (fun (r48 : Int32) => sx_c1 (fnX5_beside F m_now x3_ ((m_now ((0 : Int32)).toNatClampNeg) - (1 : Int32))) (fun (r50 : Int32) => sx_gd (sx_ib x2_ 8) ((k_175 (upd m_heard (x2_).toNatClampNeg ((m_heard (x2_).toNatClampNeg) ||| (((1 : Int32) <<< (r48 &&& 31)) ||| ((1 : Int32) <<< (r50 &&& 31)))))))))) else (k_175 m_heard))) else (k_175 m_heard)))))
def bdX5_goesBy_100 (F : Nat) (m_now : Nat → Int32) (kf_187 : (Nat → Int32) → Option ((Nat → Int32) × (Nat → Int32))) (r_ : Int32 → (Nat → Int32) → Option ((Nat → Int32) × (Nat → Int32))) (x2_ : Int32) (m_heard : Nat → Int32) : Option ((Nat → Int32) × (Nat → Int32)) :=
  (if (8 : Int32) ≤ x2_ then (kf_187 m_heard) else sx_gd (sx_ib x2_ 8) (sx_lt (fun (z34 : Nat → Int32) => sx_nm (x2_ + (1 : Int32)) (fun (v35 : Int32) => (r_ v35 z34))) (fun (k_181 : (Nat → Int32) → Option ((Nat → Int32) × (Nat → Int32))) => sx_lp2 (bdX5_goesBy_115 F x2_ m_now k_181) F (0 : Int32) (upd m_heard (x2_).toNatClampNeg (0 : Int32)))))
def bdX5_goesBy_22 (F : Nat) (x2_ : Int32) (x3_ : Int32) (kf_92 : (Nat → Int32) → Option ((Nat → Int32) × (Nat → Int32))) (r_ : Int32 → (Nat → Int32) → Option ((Nat → Int32) × (Nat → Int32))) (x4_ : Int32) (m_now : Nat → Int32) : Option ((Nat → Int32) × (Nat → Int32)) :=
  (if (8 : Int32) ≤ x4_ then (kf_92 m_now) else sx_nm (((17 : Int32) + ((8 : Int32) * x2_)) + x4_) (fun (v63 : Int32) => sx_gd (sx_ib v63 65) (sx_lt (fun (y65 : Int32) => sx_gd (sx_ib v63 65) (sx_nm (x4_ + (1 : Int32)) (fun (v67 : Int32) => (r_ v67 (upd m_now (v63).toNatClampNeg y65))))) (fun (k_85 : Int32 → Option ((Nat → Int32) × (Nat → Int32))) => (if 0 ≤ (m_now (v63).toNatClampNeg) then sx_gd (sx_ib v63 65) ((if (m_now (v63).toNatClampNeg) ≤ x3_ then (k_85 (0 : Int32)) else sx_gd (sx_ib v63 65) ((k_85 ((m_now (v63).toNatClampNeg) - x3_))))) else (k_85 (-1 : Int32)))))))
def bdX5_goesBy_2 (F : Nat) (x1_ : Int32) (kf_98 : (Nat → Int32) → Option ((Nat → Int32) × (Nat → Int32))) (r_ : Int32 → (Nat → Int32) → Option ((Nat → Int32) × (Nat → Int32))) (x2_ : Int32) (m_now : Nat → Int32) : Option ((Nat → Int32) × (Nat → Int32)) :=
  (if (m_now ((0 : Int32)).toNatClampNeg) ≤ x2_ then (kf_98 m_now) else sx_c1 (fnX5_weakens F m_now x2_ x1_) (fun (r56 : Int32) => sx_lt (fun (z58 : Nat → Int32) => sx_nm (x2_ + (1 : Int32)) (fun (v59 : Int32) => (r_ v59 z58))) (fun (k_92 : (Nat → Int32) → Option ((Nat → Int32) × (Nat → Int32))) => sx_lp2 (bdX5_goesBy_22 F x2_ r56 k_92) F (0 : Int32) m_now)))
def fnX5_goesBy (F : Nat) (m_now : Nat → Int32) (m_heard : Nat → Int32) (a1 : Int32) : Option ((Nat → Int32) × (Nat → Int32)) :=
  sx_lt (fun (z1 : Nat → Int32) => sx_lt (fun (z2 : Nat → Int32) => sx_lt (fun (z3 : Nat → Int32) => sx_gd (sx_nz ((upd z3 ((1 : Int32)).toNatClampNeg ((z3 ((1 : Int32)).toNatClampNeg) + (1 : Int32))) ((3 : Int32)).toNatClampNeg)) ((if (((upd z3 ((1 : Int32)).toNatClampNeg ((z3 ((1 : Int32)).toNatClampNeg) + (1 : Int32))) ((1 : Int32)).toNatClampNeg) - ((upd z3 ((1 : Int32)).toNatClampNeg ((z3 ((1 : Int32)).toNatClampNeg) + (1 : Int32))) ((1 : Int32)).toNatClampNeg) / ((upd z3 ((1 : Int32)).toNatClampNeg ((z3 ((1 : Int32)).toNatClampNeg) + (1 : Int32))) ((3 : Int32)).toNatClampNeg) * ((upd z3 ((1 : Int32)).toNatClampNeg ((z3 ((1 : Int32)).toNatClampNeg) + (1 : Int32))) ((3 : Int32)).toNatClampNeg)) = 0 then sx_c1 (fnX5_renews F (upd z3 ((1 : Int32)).toNatClampNeg ((z3 ((1 : Int32)).toNatClampNeg) + (1 : Int32))) ((upd z3 ((1 : Int32)).toNatClampNeg ((z3 ((1 : Int32)).toNatClampNeg) + (1 : Int32))) ((2 : Int32)).toNatClampNeg)) (fun (w6 : Nat → Int32) => (some (w6, z2))) else (some ((upd z3 ((1 : Int32)).toNatClampNeg ((z3 ((1 : Int32)).toNatClampNeg) + (1 : Int32))), z2))))) (fun (k_290 : (Nat → Int32) → Option ((Nat → Int32) × (Nat → Int32))) => sx_lp2 (bdX5_goesBy_189 F z2 k_290) F (0 : Int32) z1)) (fun (k_187 : (Nat → Int32) → Option ((Nat → Int32) × (Nat → Int32))) => sx_lp2 (bdX5_goesBy_100 F z1 k_187) F (0 : Int32) m_heard)) (fun (k_98 : (Nat → Int32) → Option ((Nat → Int32) × (Nat → Int32))) => sx_lp2 (bdX5_goesBy_2 F a1 k_98) F (0 : Int32) m_now)
set_option maxHeartbeats 4000000 in
set_option maxRecDepth 100000 in
theorem kwX5_goesBy {p : Program} {l : Launch} {e : Env} {R : Room} {s : State} {m : MethodId} {args : Array Value} {below : List Frame} {meth : Method} {c : Code} {cells slots : Nat} {Q : State → Prop} {A : Nat → Prop} {H0 : Heap} {D : va_G} {cI cJ cS : ClassId} (hx : p.tables.exec = Jvm.exec) (hb : c.code = cX5_goesBy) (hml : c.maxLocals = 6) (hown : s.vm.findClass RX5 = some m.cls) (hts : ∀ w ∈ wsX5_goesBy, w.before args s = true) (hN : sx_N s) (hK : va_K D vwCl (sx_T cI cJ cS) s) (hA : ∀ q, H0.size ≤ q → A q) (hRf : 2 ≤ R.frames) (hRl : 44 ≤ R.locals) (hRc : cells ≤ R.cells ∧ slots ≤ R.slots) (m_h m_now_a m_tape_a m_read_a m_heard_a m_undone_a m_aside_a m_kept_a m_lanes_a m_sizes_a m_items_a m_moved_a : Nat) (m_now : Nat → Int32) (m_typed : Int32) (m_place : Int32) (m_isFault : Int32) (m_heard : Nat → Int32) (m_undos : Int32) (m_keptUndos : Int32) (m_isKept : Int32) (a1 : Int32) (F : Nat) (w_m_now : Nat → Int32) (w_m_heard : Nat → Int32) (hM : fnX5_goesBy F m_now m_heard a1 = some (w_m_now, w_m_heard)) (H : Heap) (locs : List Loc) (ls : Array Slot) (hl : lv_has ls 6 [(0, .ref m_h), (1, .int a1)]) (hP : va_P D vwCl [(m_h, .inr (5, [.ref m_now_a, .ref m_tape_a, .int m_typed, .int m_place, .int m_isFault, .ref m_read_a, .ref m_heard_a, .ref m_undone_a, .int m_undos, .ref m_aside_a, .ref m_kept_a, .int m_keptUndos, .int m_isKept, .ref m_lanes_a, .ref m_sizes_a, .ref m_items_a, .ref m_moved_a])), (m_now_a, .inl (cI, 65, .inl m_now)), (m_heard_a, .inl (cI, 8, .inl m_heard))] H) (hD : va_D A [(m_h, .inr (5, [.ref m_now_a, .ref m_tape_a, .int m_typed, .int m_place, .int m_isFault, .ref m_read_a, .ref m_heard_a, .ref m_undone_a, .int m_undos, .ref m_aside_a, .ref m_kept_a, .int m_keptUndos, .int m_isKept, .ref m_lanes_a, .ref m_sizes_a, .ref m_items_a, .ref m_moved_a])), (m_now_a, .inl (cI, 65, .inl m_now)), (m_heard_a, .inl (cI, 8, .inl m_heard))]) (hS : va_S A H0 H locs)
    (hret : ∀ (H1 : Heap) (locs1 : List Loc) (ls1 : Array Slot) (pc1 : Nat), decode cX5_goesBy pc1 = .ok (.return_, 1) → va_P D vwCl [(m_h, .inr (5, [.ref m_now_a, .ref m_tape_a, .int m_typed, .int m_place, .int m_isFault, .ref m_read_a, .ref m_heard_a, .ref m_undone_a, .int m_undos, .ref m_aside_a, .ref m_kept_a, .int m_keptUndos, .int m_isKept, .ref m_lanes_a, .ref m_sizes_a, .ref m_items_a, .ref m_moved_a])), (m_now_a, .inl (cI, 65, .inl w_m_now)), (m_heard_a, .inl (cI, 8, .inl w_m_heard))] H1 → va_D A [(m_h, .inr (5, [.ref m_now_a, .ref m_tape_a, .int m_typed, .int m_place, .int m_isFault, .ref m_read_a, .ref m_heard_a, .ref m_undone_a, .int m_undos, .ref m_aside_a, .ref m_kept_a, .int m_keptUndos, .int m_isKept, .ref m_lanes_a, .ref m_sizes_a, .ref m_items_a, .ref m_moved_a])), (m_now_a, .inl (cI, 65, .inl w_m_now)), (m_heard_a, .inl (cI, 8, .inl w_m_heard))] → va_S A H0 H1 locs1 → W p l e R s m args below meth c H1 locs1 cells slots Q (F0 m pc1 ls1 [])) : W p l e R s m args below meth c H locs cells slots Q (F0 m 0 ls []) := by
  have hf_7 := hts (.fieldLink RX5 7 "SealedLipsModel" "now" "[I") (by decide +kernel)
  have hf_19 := hts (.fieldLink RX5 19 "SealedLipsModel" "heard" "[I") (by decide +kernel)
  have hin_X5 : ∀ w ∈ wsX50, w ∈ wsX5_goesBy := by decide +kernel
  unfold fnX5_goesBy at hM
  refine lv_iconst (v := 0) hx hb dX5_goesBy_0 (by decide) ?_
  refine lv_istore_n (lv' := [(2, .int (0 : Int32)), (0, .ref m_h), (1, .int a1)]) hx hb dX5_goesBy_1 rfl hl (by decide) rfl (fun ls hl => ?_)
  obtain ⟨k_98, ek_98, hM⟩ := sx_lt_s hM
  have hk_98 : ∀ (z1 : Nat → Int32) (H : Heap) (locs : List Loc) (ls : Array Slot), k_98 z1 = some (w_m_now, w_m_heard) → lv_has ls 6 [(0, .ref m_h)] → va_P D vwCl [(m_h, .inr (5, [.ref m_now_a, .ref m_tape_a, .int m_typed, .int m_place, .int m_isFault, .ref m_read_a, .ref m_heard_a, .ref m_undone_a, .int m_undos, .ref m_aside_a, .ref m_kept_a, .int m_keptUndos, .int m_isKept, .ref m_lanes_a, .ref m_sizes_a, .ref m_items_a, .ref m_moved_a])), (m_now_a, .inl (cI, 65, .inl z1)), (m_heard_a, .inl (cI, 8, .inl m_heard))] H → va_D A [(m_h, .inr (5, [.ref m_now_a, .ref m_tape_a, .int m_typed, .int m_place, .int m_isFault, .ref m_read_a, .ref m_heard_a, .ref m_undone_a, .int m_undos, .ref m_aside_a, .ref m_kept_a, .int m_keptUndos, .int m_isKept, .ref m_lanes_a, .ref m_sizes_a, .ref m_items_a, .ref m_moved_a])), (m_now_a, .inl (cI, 65, .inl z1)), (m_heard_a, .inl (cI, 8, .inl m_heard))] → va_S A H0 H locs → W p l e R s m args below meth c H locs cells slots Q (F0 m 98 ls ([])) := by
    intro z1 H locs ls hM hl hP hD hS
    rw [ek_98] at hM
    refine lv_iconst (v := 0) hx hb dX5_goesBy_98 (by decide) ?_
    refine lv_istore_n (lv' := [(2, .int (0 : Int32)), (0, .ref m_h)]) hx hb dX5_goesBy_99 rfl hl (by decide) rfl (fun ls hl => ?_)
    obtain ⟨k_187, ek_187, hM⟩ := sx_lt_s hM
    have hk_187 : ∀ (z2 : Nat → Int32) (H : Heap) (locs : List Loc) (ls : Array Slot), k_187 z2 = some (w_m_now, w_m_heard) → lv_has ls 6 [(0, .ref m_h)] → va_P D vwCl [(m_h, .inr (5, [.ref m_now_a, .ref m_tape_a, .int m_typed, .int m_place, .int m_isFault, .ref m_read_a, .ref m_heard_a, .ref m_undone_a, .int m_undos, .ref m_aside_a, .ref m_kept_a, .int m_keptUndos, .int m_isKept, .ref m_lanes_a, .ref m_sizes_a, .ref m_items_a, .ref m_moved_a])), (m_now_a, .inl (cI, 65, .inl z1)), (m_heard_a, .inl (cI, 8, .inl z2))] H → va_D A [(m_h, .inr (5, [.ref m_now_a, .ref m_tape_a, .int m_typed, .int m_place, .int m_isFault, .ref m_read_a, .ref m_heard_a, .ref m_undone_a, .int m_undos, .ref m_aside_a, .ref m_kept_a, .int m_keptUndos, .int m_isKept, .ref m_lanes_a, .ref m_sizes_a, .ref m_items_a, .ref m_moved_a])), (m_now_a, .inl (cI, 65, .inl z1)), (m_heard_a, .inl (cI, 8, .inl z2))] → va_S A H0 H locs → W p l e R s m args below meth c H locs cells slots Q (F0 m 187 ls ([])) := by
      intro z2 H locs ls hM hl hP hD hS
      rw [ek_187] at hM
      refine lv_iconst (v := 0) hx hb dX5_goesBy_187 (by decide) ?_
      refine lv_istore_n (lv' := [(2, .int (0 : Int32)), (0, .ref m_h)]) hx hb dX5_goesBy_188 rfl hl (by decide) rfl (fun ls hl => ?_)
      obtain ⟨k_290, ek_290, hM⟩ := sx_lt_s hM
      have hk_290 : ∀ (z3 : Nat → Int32) (H : Heap) (locs : List Loc) (ls : Array Slot), k_290 z3 = some (w_m_now, w_m_heard) → lv_has ls 6 [(0, .ref m_h)] → va_P D vwCl [(m_h, .inr (5, [.ref m_now_a, .ref m_tape_a, .int m_typed, .int m_place, .int m_isFault, .ref m_read_a, .ref m_heard_a, .ref m_undone_a, .int m_undos, .ref m_aside_a, .ref m_kept_a, .int m_keptUndos, .int m_isKept, .ref m_lanes_a, .ref m_sizes_a, .ref m_items_a, .ref m_moved_a])), (m_now_a, .inl (cI, 65, .inl z3)), (m_heard_a, .inl (cI, 8, .inl z2))] H → va_D A [(m_h, .inr (5, [.ref m_now_a, .ref m_tape_a, .int m_typed, .int m_place, .int m_isFault, .ref m_read_a, .ref m_heard_a, .ref m_undone_a, .int m_undos, .ref m_aside_a, .ref m_kept_a, .int m_keptUndos, .int m_isKept, .ref m_lanes_a, .ref m_sizes_a, .ref m_items_a, .ref m_moved_a])), (m_now_a, .inl (cI, 65, .inl z3)), (m_heard_a, .inl (cI, 8, .inl z2))] → va_S A H0 H locs → W p l e R s m args below meth c H locs cells slots Q (F0 m 290 ls ([])) := by
        intro z3 H locs ls hM hl hP hD hS
        rw [ek_290] at hM
        refine lv_aload_n hx hb dX5_goesBy_290 rfl (lv_at hl 0 rfl) ?_
        refine va_get (D := D) (ci := 5) (v := .ref m_now_a) (C := RX5) (T := TX5) (N := 17) hx hb hts hin_X5 hown hK hP 0 rfl rfl 0 (by decide) hf_7 (fun _ h9 => h9) rfl dX5_goesBy_291 ?_
        refine lv_iconst (v := 1) hx hb dX5_goesBy_294 (by decide) ?_
        refine lv_dup2_11 hx hb dX5_goesBy_295 rfl rfl ?_
        refine va_iald hx hb hK hP 1 0 rfl rfl (sx_ib_s (by decide)) dX5_goesBy_296 ?_
        refine lv_iconst (v := 1) hx hb dX5_goesBy_297 (by decide) ?_
        refine lv_iadd hx hb dX5_goesBy_298 ?_
        refine va_iast hx hb hK hP hD hS 1 0 rfl rfl (sx_ib_s (by decide)) dX5_goesBy_299 (fun H locs hP hD hS => ?_)
        have hP : va_P D vwCl [(m_h, .inr (5, [.ref m_now_a, .ref m_tape_a, .int m_typed, .int m_place, .int m_isFault, .ref m_read_a, .ref m_heard_a, .ref m_undone_a, .int m_undos, .ref m_aside_a, .ref m_kept_a, .int m_keptUndos, .int m_isKept, .ref m_lanes_a, .ref m_sizes_a, .ref m_items_a, .ref m_moved_a])), (m_now_a, .inl (cI, 65, .inl (upd z3 ((1 : Int32)).toNatClampNeg ((z3 ((1 : Int32)).toNatClampNeg) + (1 : Int32))))), (m_heard_a, .inl (cI, 8, .inl z2))] H := hP
        have hD : va_D A [(m_h, .inr (5, [.ref m_now_a, .ref m_tape_a, .int m_typed, .int m_place, .int m_isFault, .ref m_read_a, .ref m_heard_a, .ref m_undone_a, .int m_undos, .ref m_aside_a, .ref m_kept_a, .int m_keptUndos, .int m_isKept, .ref m_lanes_a, .ref m_sizes_a, .ref m_items_a, .ref m_moved_a])), (m_now_a, .inl (cI, 65, .inl (upd z3 ((1 : Int32)).toNatClampNeg ((z3 ((1 : Int32)).toNatClampNeg) + (1 : Int32))))), (m_heard_a, .inl (cI, 8, .inl z2))] := hD
        refine lv_aload_n hx hb dX5_goesBy_300 rfl (lv_at hl 0 rfl) ?_
        refine va_get (D := D) (ci := 5) (v := .ref m_now_a) (C := RX5) (T := TX5) (N := 17) hx hb hts hin_X5 hown hK hP 0 rfl rfl 0 (by decide) hf_7 (fun _ h9 => h9) rfl dX5_goesBy_301 ?_
        refine lv_iconst (v := 1) hx hb dX5_goesBy_304 (by decide) ?_
        refine va_iald hx hb hK hP 1 0 rfl rfl (sx_ib_s (by decide)) dX5_goesBy_305 ?_
        refine lv_aload_n hx hb dX5_goesBy_306 rfl (lv_at hl 0 rfl) ?_
        refine va_get (D := D) (ci := 5) (v := .ref m_now_a) (C := RX5) (T := TX5) (N := 17) hx hb hts hin_X5 hown hK hP 0 rfl rfl 0 (by decide) hf_7 (fun _ h9 => h9) rfl dX5_goesBy_307 ?_
        refine lv_iconst (v := 3) hx hb dX5_goesBy_310 (by decide) ?_
        refine va_iald hx hb hK hP 1 0 rfl rfl (sx_ib_s (by decide)) dX5_goesBy_311 ?_
        obtain ⟨g4, hM⟩ := sx_gd_s hM
        refine lv_irem hx hb dX5_goesBy_312 (sx_nz_s g4) ?_
        refine lv_if_ne (tgt := 326) hx hb dX5_goesBy_313 (by decide) (fun c5 => ?_) (fun c5 => ?_)
        · replace hM := sx_iff c5 hM
          obtain ⟨rfl, rfl⟩ := sx_o2 hM
          exact hret _ _ _ _ dX5_goesBy_326 (hP.sub [0, 1, 2] rfl) (hD.sub [0, 1, 2] (by decide) rfl) hS
        · replace hM := sx_ift c5 hM
          refine lv_aload_n hx hb dX5_goesBy_316 rfl (lv_at hl 0 rfl) ?_
          refine lv_aload_n hx hb dX5_goesBy_317 rfl (lv_at hl 0 rfl) ?_
          refine va_get (D := D) (ci := 5) (v := .ref m_now_a) (C := RX5) (T := TX5) (N := 17) hx hb hts hin_X5 hown hK hP 0 rfl rfl 0 (by decide) hf_7 (fun _ h9 => h9) rfl dX5_goesBy_318 ?_
          refine lv_iconst (v := 2) hx hb dX5_goesBy_321 (by decide) ?_
          refine va_iald hx hb hK hP 1 0 rfl rfl (sx_ib_s (by decide)) dX5_goesBy_322 ?_
          obtain ⟨w6, hc7, hM⟩ := sx_c1_s hM
          refine sx_vV (As := [.int ((upd z3 ((1 : Int32)).toNatClampNeg ((z3 ((1 : Int32)).toNatClampNeg) + (1 : Int32))) ((2 : Int32)).toNatClampNeg)]) (rest := []) (wc := [(m_h, .inr (5, [.ref m_now_a, .ref m_tape_a, .int m_typed, .int m_place, .int m_isFault, .ref m_read_a, .ref m_heard_a, .ref m_undone_a, .int m_undos, .ref m_aside_a, .ref m_kept_a, .int m_keptUndos, .int m_isKept, .ref m_lanes_a, .ref m_sizes_a, .ref m_items_a, .ref m_moved_a])), (m_now_a, .inl (cI, 65, .inl (upd z3 ((1 : Int32)).toNatClampNeg ((z3 ((1 : Int32)).toNatClampNeg) + (1 : Int32)))))]) (wr := [(m_heard_a, .inl (cI, 8, .inl z2))]) (w1 := [(m_h, .inr (5, [.ref m_now_a, .ref m_tape_a, .int m_typed, .int m_place, .int m_isFault, .ref m_read_a, .ref m_heard_a, .ref m_undone_a, .int m_undos, .ref m_aside_a, .ref m_kept_a, .int m_keptUndos, .int m_isKept, .ref m_lanes_a, .ref m_sizes_a, .ref m_items_a, .ref m_moved_a])), (m_now_a, .inl (cI, 65, .inl w6))]) ⟨hx, hb, hml, hown, hts⟩ (mtX5_renews l D cI cJ cS H.size m_h m_now_a m_tape_a m_read_a m_heard_a m_undone_a m_aside_a m_kept_a m_lanes_a m_sizes_a m_items_a m_moved_a (upd z3 ((1 : Int32)).toNatClampNeg ((z3 ((1 : Int32)).toNatClampNeg) + (1 : Int32))) m_typed m_place m_isFault m_undos m_keptUndos m_isKept ((upd z3 ((1 : Int32)).toNatClampNeg ((z3 ((1 : Int32)).toNatClampNeg) + (1 : Int32))) ((2 : Int32)).toNatClampNeg) F w6 hc7) (cwV 1 hts gX5_goesBy_X5_renews rfl rfl rfl (by decide +kernel) ⟨Nat.le_trans (by decide) hRf, Nat.le_trans (by decide) hRl⟩) hK hN hP hD hS hA [0, 1] [2] rfl (by decide) rfl (by decide) (by decide) rfl rfl rfl rfl hl.1 rfl (Nat.le_of_ble_eq_true rfl) dX5_goesBy_323 hRc (fun H locs hP hD hS => ?_)
          have hP : va_P D vwCl [(m_heard_a, .inl (cI, 8, .inl z2)), (m_h, .inr (5, [.ref m_now_a, .ref m_tape_a, .int m_typed, .int m_place, .int m_isFault, .ref m_read_a, .ref m_heard_a, .ref m_undone_a, .int m_undos, .ref m_aside_a, .ref m_kept_a, .int m_keptUndos, .int m_isKept, .ref m_lanes_a, .ref m_sizes_a, .ref m_items_a, .ref m_moved_a])), (m_now_a, .inl (cI, 65, .inl w6))] H := hP
          have hD : va_D A [(m_heard_a, .inl (cI, 8, .inl z2)), (m_h, .inr (5, [.ref m_now_a, .ref m_tape_a, .int m_typed, .int m_place, .int m_isFault, .ref m_read_a, .ref m_heard_a, .ref m_undone_a, .int m_undos, .ref m_aside_a, .ref m_kept_a, .int m_keptUndos, .int m_isKept, .ref m_lanes_a, .ref m_sizes_a, .ref m_items_a, .ref m_moved_a])), (m_now_a, .inl (cI, 65, .inl w6))] := hD
          obtain ⟨rfl, rfl⟩ := sx_o2 hM
          exact hret _ _ _ _ dX5_goesBy_326 (hP.sub [1, 2, 0] rfl) (hD.sub [1, 2, 0] (by decide) rfl) hS
      have lp_189 : ∀ (n : Nat) (x8 : Int32) (z9 : Nat → Int32) (H : Heap) (locs : List Loc) (ls : Array Slot), sx_lp2 (bdX5_goesBy_189 F z2 k_290) n x8 z9 = some (w_m_now, w_m_heard) → lv_has ls 6 [(0, .ref m_h), (2, .int x8)] → va_P D vwCl [(m_h, .inr (5, [.ref m_now_a, .ref m_tape_a, .int m_typed, .int m_place, .int m_isFault, .ref m_read_a, .ref m_heard_a, .ref m_undone_a, .int m_undos, .ref m_aside_a, .ref m_kept_a, .int m_keptUndos, .int m_isKept, .ref m_lanes_a, .ref m_sizes_a, .ref m_items_a, .ref m_moved_a])), (m_now_a, .inl (cI, 65, .inl z9)), (m_heard_a, .inl (cI, 8, .inl z2))] H → va_D A [(m_h, .inr (5, [.ref m_now_a, .ref m_tape_a, .int m_typed, .int m_place, .int m_isFault, .ref m_read_a, .ref m_heard_a, .ref m_undone_a, .int m_undos, .ref m_aside_a, .ref m_kept_a, .int m_keptUndos, .int m_isKept, .ref m_lanes_a, .ref m_sizes_a, .ref m_items_a, .ref m_moved_a])), (m_now_a, .inl (cI, 65, .inl z9)), (m_heard_a, .inl (cI, 8, .inl z2))] → va_S A H0 H locs → W p l e R s m args below meth c H locs cells slots Q (F0 m 189 ls ([])) := by
        intro n
        induction n with
        | zero => intro x8 z9 H locs ls hM; exact (sx_lp2_0 hM).elim
        | succ n ih =>
          intro x8 z9 H locs ls hM hl hP hD hS
          have hM : bdX5_goesBy_189 F z2 k_290 (sx_lp2 (bdX5_goesBy_189 F z2 k_290) n) x8 z9 = some (w_m_now, w_m_heard) := hM
          generalize sx_lp2 (bdX5_goesBy_189 F z2 k_290) n = r_189 at hM ih
          unfold bdX5_goesBy_189 at hM
          refine lv_iload_n hx hb dX5_goesBy_189 rfl (lv_at hl 1 rfl) ?_
          refine lv_aload_n hx hb dX5_goesBy_190 rfl (lv_at hl 0 rfl) ?_
          refine va_get (D := D) (ci := 5) (v := .ref m_now_a) (C := RX5) (T := TX5) (N := 17) hx hb hts hin_X5 hown hK hP 0 rfl rfl 0 (by decide) hf_7 (fun _ h9 => h9) rfl dX5_goesBy_191 ?_
          refine lv_iconst (v := 0) hx hb dX5_goesBy_194 (by decide) ?_
          refine va_iald hx hb hK hP 1 0 rfl rfl (sx_ib_s (by decide)) dX5_goesBy_195 ?_
          refine lv_icmp_ge (tgt := 290) hx hb dX5_goesBy_196 (by decide) (fun c10 => ?_) (fun c10 => ?_)
          · replace hM := sx_ift c10 hM
            exact hk_290 z9 _ _ _ hM (lv_sub hl [0] rfl) (hP.sub [0, 1, 2] rfl) (hD.sub [0, 1, 2] (by decide) rfl) hS
          · replace hM := sx_iff c10 hM
            refine lv_iconst (v := 0) hx hb dX5_goesBy_199 (by decide) ?_
            refine lv_istore_n (lv' := [(3, .int (0 : Int32)), (0, .ref m_h), (2, .int x8)]) hx hb dX5_goesBy_200 rfl hl (by decide) rfl (fun ls hl => ?_)
            obtain ⟨k_284, ek_284, hM⟩ := sx_lt_s hM
            have hk_284 : ∀ (z11 : Nat → Int32) (H : Heap) (locs : List Loc) (ls : Array Slot), k_284 z11 = some (w_m_now, w_m_heard) → lv_has ls 6 [(0, .ref m_h), (2, .int x8)] → va_P D vwCl [(m_h, .inr (5, [.ref m_now_a, .ref m_tape_a, .int m_typed, .int m_place, .int m_isFault, .ref m_read_a, .ref m_heard_a, .ref m_undone_a, .int m_undos, .ref m_aside_a, .ref m_kept_a, .int m_keptUndos, .int m_isKept, .ref m_lanes_a, .ref m_sizes_a, .ref m_items_a, .ref m_moved_a])), (m_now_a, .inl (cI, 65, .inl z11)), (m_heard_a, .inl (cI, 8, .inl z2))] H → va_D A [(m_h, .inr (5, [.ref m_now_a, .ref m_tape_a, .int m_typed, .int m_place, .int m_isFault, .ref m_read_a, .ref m_heard_a, .ref m_undone_a, .int m_undos, .ref m_aside_a, .ref m_kept_a, .int m_keptUndos, .int m_isKept, .ref m_lanes_a, .ref m_sizes_a, .ref m_items_a, .ref m_moved_a])), (m_now_a, .inl (cI, 65, .inl z11)), (m_heard_a, .inl (cI, 8, .inl z2))] → va_S A H0 H locs → W p l e R s m args below meth c H locs cells slots Q (F0 m 284 ls ([])) := by
              intro z11 H locs ls hM hl hP hD hS
              rw [ek_284] at hM
              obtain ⟨v12, ev12, hM⟩ := sx_nm_s hM
              refine lv_iinc (v := v12) (lv' := [(2, .int v12), (0, .ref m_h)]) hx hb dX5_goesBy_284 hl (k := 1) rfl (by rw [ev12]; rfl) (by decide) rfl (fun ls hl => ?_)
              refine lv_goto (tgt := 189) hx hb dX5_goesBy_287 (by decide) ?_
              exact ih v12 z11 _ _ _ hM (lv_sub hl [1, 0] rfl) (hP.sub [0, 1, 2] rfl) (hD.sub [0, 1, 2] (by decide) rfl) hS
            have lp_201 : ∀ (n : Nat) (x13 : Int32) (z14 : Nat → Int32) (H : Heap) (locs : List Loc) (ls : Array Slot), sx_lp2 (bdX5_goesBy_201 F x8 z2 k_284) n x13 z14 = some (w_m_now, w_m_heard) → lv_has ls 6 [(0, .ref m_h), (2, .int x8), (3, .int x13)] → va_P D vwCl [(m_h, .inr (5, [.ref m_now_a, .ref m_tape_a, .int m_typed, .int m_place, .int m_isFault, .ref m_read_a, .ref m_heard_a, .ref m_undone_a, .int m_undos, .ref m_aside_a, .ref m_kept_a, .int m_keptUndos, .int m_isKept, .ref m_lanes_a, .ref m_sizes_a, .ref m_items_a, .ref m_moved_a])), (m_now_a, .inl (cI, 65, .inl z14)), (m_heard_a, .inl (cI, 8, .inl z2))] H → va_D A [(m_h, .inr (5, [.ref m_now_a, .ref m_tape_a, .int m_typed, .int m_place, .int m_isFault, .ref m_read_a, .ref m_heard_a, .ref m_undone_a, .int m_undos, .ref m_aside_a, .ref m_kept_a, .int m_keptUndos, .int m_isKept, .ref m_lanes_a, .ref m_sizes_a, .ref m_items_a, .ref m_moved_a])), (m_now_a, .inl (cI, 65, .inl z14)), (m_heard_a, .inl (cI, 8, .inl z2))] → va_S A H0 H locs → W p l e R s m args below meth c H locs cells slots Q (F0 m 201 ls ([])) := by
              intro n
              induction n with
              | zero => intro x13 z14 H locs ls hM; exact (sx_lp2_0 hM).elim
              | succ n ih =>
                intro x13 z14 H locs ls hM hl hP hD hS
                have hM : bdX5_goesBy_201 F x8 z2 k_284 (sx_lp2 (bdX5_goesBy_201 F x8 z2 k_284) n) x13 z14 = some (w_m_now, w_m_heard) := hM
                generalize sx_lp2 (bdX5_goesBy_201 F x8 z2 k_284) n = r_201 at hM ih
                unfold bdX5_goesBy_201 at hM
                refine lv_iload_n hx hb dX5_goesBy_201 rfl (lv_at hl 2 rfl) ?_
                refine lv_bipush (v := 8) hx hb dX5_goesBy_202 (by decide) ?_
                refine lv_icmp_ge (tgt := 284) hx hb dX5_goesBy_204 (by decide) (fun c15 => ?_) (fun c15 => ?_)
                · replace hM := sx_ift c15 hM
                  exact hk_284 z14 _ _ _ hM (lv_sub hl [0, 1] rfl) (hP.sub [0, 1, 2] rfl) (hD.sub [0, 1, 2] (by decide) rfl) hS
                · replace hM := sx_iff c15 hM
                  refine lv_aload_n hx hb dX5_goesBy_207 rfl (lv_at hl 0 rfl) ?_
                  refine va_get (D := D) (ci := 5) (v := .ref m_heard_a) (C := RX5) (T := TX5) (N := 17) hx hb hts hin_X5 hown hK hP 0 rfl rfl 6 (by decide) hf_19 (fun _ h9 => h9) rfl dX5_goesBy_208 ?_
                  refine lv_iload_n hx hb dX5_goesBy_211 rfl (lv_at hl 2 rfl) ?_
                  obtain ⟨g16, hM⟩ := sx_gd_s hM
                  refine va_iald hx hb hK hP 2 0 rfl rfl (sx_ib_s g16) dX5_goesBy_212 ?_
                  refine lv_iload_n hx hb dX5_goesBy_213 rfl (lv_at hl 1 rfl) ?_
                  refine lv_ishr hx hb dX5_goesBy_214 ?_
                  refine lv_iconst (v := 1) hx hb dX5_goesBy_215 (by decide) ?_
                  refine lv_iand hx hb dX5_goesBy_216 ?_
                  refine lv_iconst (v := 1) hx hb dX5_goesBy_217 (by decide) ?_
                  obtain ⟨k_247, ek_247, hM⟩ := sx_lt_s hM
                  have hk_247 : ∀ (y17 : Int32) (H : Heap) (locs : List Loc) (ls : Array Slot), k_247 y17 = some (w_m_now, w_m_heard) → lv_has ls 6 [(0, .ref m_h), (2, .int x8), (3, .int x13)] → va_P D vwCl [(m_h, .inr (5, [.ref m_now_a, .ref m_tape_a, .int m_typed, .int m_place, .int m_isFault, .ref m_read_a, .ref m_heard_a, .ref m_undone_a, .int m_undos, .ref m_aside_a, .ref m_kept_a, .int m_keptUndos, .int m_isKept, .ref m_lanes_a, .ref m_sizes_a, .ref m_items_a, .ref m_moved_a])), (m_now_a, .inl (cI, 65, .inl z14)), (m_heard_a, .inl (cI, 8, .inl z2))] H → va_D A [(m_h, .inr (5, [.ref m_now_a, .ref m_tape_a, .int m_typed, .int m_place, .int m_isFault, .ref m_read_a, .ref m_heard_a, .ref m_undone_a, .int m_undos, .ref m_aside_a, .ref m_kept_a, .int m_keptUndos, .int m_isKept, .ref m_lanes_a, .ref m_sizes_a, .ref m_items_a, .ref m_moved_a])), (m_now_a, .inl (cI, 65, .inl z14)), (m_heard_a, .inl (cI, 8, .inl z2))] → va_S A H0 H locs → W p l e R s m args below meth c H locs cells slots Q (F0 m 247 ls (.int y17 :: [])) := by
                    intro y17 H locs ls hM hl hP hD hS
                    rw [ek_247] at hM
                    refine lv_istore (lv' := [(4, .int y17), (0, .ref m_h), (2, .int x8), (3, .int x13)]) hx hb dX5_goesBy_247 hl (by decide) rfl (fun ls hl => ?_)
                    refine lv_aload_n hx hb dX5_goesBy_249 rfl (lv_at hl 1 rfl) ?_
                    refine va_get (D := D) (ci := 5) (v := .ref m_now_a) (C := RX5) (T := TX5) (N := 17) hx hb hts hin_X5 hown hK hP 0 rfl rfl 0 (by decide) hf_7 (fun _ h9 => h9) rfl dX5_goesBy_250 ?_
                    refine lv_bipush (v := 17) hx hb dX5_goesBy_253 (by decide) ?_
                    refine lv_bipush (v := 8) hx hb dX5_goesBy_255 (by decide) ?_
                    refine lv_iload_n hx hb dX5_goesBy_257 rfl (lv_at hl 2 rfl) ?_
                    refine lv_imul hx hb dX5_goesBy_258 ?_
                    refine lv_iadd hx hb dX5_goesBy_259 ?_
                    refine lv_iload_n hx hb dX5_goesBy_260 rfl (lv_at hl 3 rfl) ?_
                    refine lv_iadd hx hb dX5_goesBy_261 ?_
                    refine lv_iload hx hb dX5_goesBy_262 (lv_at hl 0 rfl) ?_
                    obtain ⟨k_277, ek_277, hM⟩ := sx_lt_s hM
                    have hk_277 : ∀ (y18 : Int32) (H : Heap) (locs : List Loc) (ls : Array Slot), k_277 y18 = some (w_m_now, w_m_heard) → lv_has ls 6 [(0, .ref m_h), (2, .int x8), (3, .int x13)] → va_P D vwCl [(m_h, .inr (5, [.ref m_now_a, .ref m_tape_a, .int m_typed, .int m_place, .int m_isFault, .ref m_read_a, .ref m_heard_a, .ref m_undone_a, .int m_undos, .ref m_aside_a, .ref m_kept_a, .int m_keptUndos, .int m_isKept, .ref m_lanes_a, .ref m_sizes_a, .ref m_items_a, .ref m_moved_a])), (m_now_a, .inl (cI, 65, .inl z14)), (m_heard_a, .inl (cI, 8, .inl z2))] H → va_D A [(m_h, .inr (5, [.ref m_now_a, .ref m_tape_a, .int m_typed, .int m_place, .int m_isFault, .ref m_read_a, .ref m_heard_a, .ref m_undone_a, .int m_undos, .ref m_aside_a, .ref m_kept_a, .int m_keptUndos, .int m_isKept, .ref m_lanes_a, .ref m_sizes_a, .ref m_items_a, .ref m_moved_a])), (m_now_a, .inl (cI, 65, .inl z14)), (m_heard_a, .inl (cI, 8, .inl z2))] → va_S A H0 H locs → W p l e R s m args below meth c H locs cells slots Q (F0 m 277 ls (.int y18 :: .int (((17 : Int32) + ((8 : Int32) * x8)) + x13) :: .ref m_now_a :: [])) := by
                      intro y18 H locs ls hM hl hP hD hS
                      rw [ek_277] at hM
                      obtain ⟨g19, hM⟩ := sx_gd_s hM
                      refine va_iast hx hb hK hP hD hS 1 0 rfl rfl (sx_ib_s g19) dX5_goesBy_277 (fun H locs hP hD hS => ?_)
                      have hP : va_P D vwCl [(m_h, .inr (5, [.ref m_now_a, .ref m_tape_a, .int m_typed, .int m_place, .int m_isFault, .ref m_read_a, .ref m_heard_a, .ref m_undone_a, .int m_undos, .ref m_aside_a, .ref m_kept_a, .int m_keptUndos, .int m_isKept, .ref m_lanes_a, .ref m_sizes_a, .ref m_items_a, .ref m_moved_a])), (m_now_a, .inl (cI, 65, .inl (upd z14 ((((17 : Int32) + ((8 : Int32) * x8)) + x13)).toNatClampNeg y18))), (m_heard_a, .inl (cI, 8, .inl z2))] H := hP
                      have hD : va_D A [(m_h, .inr (5, [.ref m_now_a, .ref m_tape_a, .int m_typed, .int m_place, .int m_isFault, .ref m_read_a, .ref m_heard_a, .ref m_undone_a, .int m_undos, .ref m_aside_a, .ref m_kept_a, .int m_keptUndos, .int m_isKept, .ref m_lanes_a, .ref m_sizes_a, .ref m_items_a, .ref m_moved_a])), (m_now_a, .inl (cI, 65, .inl (upd z14 ((((17 : Int32) + ((8 : Int32) * x8)) + x13)).toNatClampNeg y18))), (m_heard_a, .inl (cI, 8, .inl z2))] := hD
                      obtain ⟨v20, ev20, hM⟩ := sx_nm_s hM
                      refine lv_iinc (v := v20) (lv' := [(3, .int v20), (0, .ref m_h), (2, .int x8)]) hx hb dX5_goesBy_278 hl (k := 2) rfl (by rw [ev20]; rfl) (by decide) rfl (fun ls hl => ?_)
                      refine lv_goto (tgt := 201) hx hb dX5_goesBy_281 (by decide) ?_
                      exact ih v20 (upd z14 ((((17 : Int32) + ((8 : Int32) * x8)) + x13)).toNatClampNeg y18) _ _ _ hM (lv_sub hl [1, 2, 0] rfl) (hP.sub [0, 1, 2] rfl) (hD.sub [0, 1, 2] (by decide) rfl) hS
                    refine lv_if_eq (tgt := 271) hx hb dX5_goesBy_264 (by decide) (fun c21 => ?_) (fun c21 => ?_)
                    · replace hM := sx_ift c21 hM
                      refine lv_aload_n hx hb dX5_goesBy_271 rfl (lv_at hl 1 rfl) ?_
                      refine lv_iload_n hx hb dX5_goesBy_272 rfl (lv_at hl 2 rfl) ?_
                      refine lv_iload_n hx hb dX5_goesBy_273 rfl (lv_at hl 3 rfl) ?_
                      obtain ⟨r22, hc23, hM⟩ := sx_c1_s hM
                      refine sx_iV (As := [.int x8, .int x13]) (rest := [.int (((17 : Int32) + ((8 : Int32) * x8)) + x13), .ref m_now_a]) (wc := [(m_h, .inr (5, [.ref m_now_a, .ref m_tape_a, .int m_typed, .int m_place, .int m_isFault, .ref m_read_a, .ref m_heard_a, .ref m_undone_a, .int m_undos, .ref m_aside_a, .ref m_kept_a, .int m_keptUndos, .int m_isKept, .ref m_lanes_a, .ref m_sizes_a, .ref m_items_a, .ref m_moved_a])), (m_now_a, .inl (cI, 65, .inl z14))]) (wr := [(m_heard_a, .inl (cI, 8, .inl z2))]) (w1 := [(m_h, .inr (5, [.ref m_now_a, .ref m_tape_a, .int m_typed, .int m_place, .int m_isFault, .ref m_read_a, .ref m_heard_a, .ref m_undone_a, .int m_undos, .ref m_aside_a, .ref m_kept_a, .int m_keptUndos, .int m_isKept, .ref m_lanes_a, .ref m_sizes_a, .ref m_items_a, .ref m_moved_a])), (m_now_a, .inl (cI, 65, .inl z14))]) ⟨hx, hb, hml, hown, hts⟩ (mtX5_sealOf l D cI cJ cS H.size m_h m_now_a m_tape_a m_read_a m_heard_a m_undone_a m_aside_a m_kept_a m_lanes_a m_sizes_a m_items_a m_moved_a z14 m_typed m_place m_isFault m_undos m_keptUndos m_isKept x8 x13 F r22 hc23) (cwV 2 hts gX5_goesBy_X5_sealOf rfl rfl rfl (by decide +kernel) ⟨Nat.le_trans (by decide) hRf, Nat.le_trans (by decide) hRl⟩) hK hN hP hD hS hA [0, 1] [2] rfl (by decide) rfl (by decide) (by decide) rfl rfl rfl rfl hl.1 rfl (Nat.le_of_ble_eq_true rfl) dX5_goesBy_274 hRc (fun H locs hP hD hS => ?_)
                      have hP : va_P D vwCl [(m_heard_a, .inl (cI, 8, .inl z2)), (m_h, .inr (5, [.ref m_now_a, .ref m_tape_a, .int m_typed, .int m_place, .int m_isFault, .ref m_read_a, .ref m_heard_a, .ref m_undone_a, .int m_undos, .ref m_aside_a, .ref m_kept_a, .int m_keptUndos, .int m_isKept, .ref m_lanes_a, .ref m_sizes_a, .ref m_items_a, .ref m_moved_a])), (m_now_a, .inl (cI, 65, .inl z14))] H := hP
                      have hD : va_D A [(m_heard_a, .inl (cI, 8, .inl z2)), (m_h, .inr (5, [.ref m_now_a, .ref m_tape_a, .int m_typed, .int m_place, .int m_isFault, .ref m_read_a, .ref m_heard_a, .ref m_undone_a, .int m_undos, .ref m_aside_a, .ref m_kept_a, .int m_keptUndos, .int m_isKept, .ref m_lanes_a, .ref m_sizes_a, .ref m_items_a, .ref m_moved_a])), (m_now_a, .inl (cI, 65, .inl z14))] := hD
                      exact hk_277 r22 _ _ _ hM (lv_sub hl [1, 2, 3] rfl) (hP.sub [1, 2, 0] rfl) (hD.sub [1, 2, 0] (by decide) rfl) hS
                    · replace hM := sx_iff c21 hM
                      refine lv_iconst (v := 0) hx hb dX5_goesBy_267 (by decide) ?_
                      refine lv_goto (tgt := 277) hx hb dX5_goesBy_268 (by decide) ?_
                      exact hk_277 (0 : Int32) _ _ _ hM (lv_sub hl [1, 2, 3] rfl) (hP.sub [0, 1, 2] rfl) (hD.sub [0, 1, 2] (by decide) rfl) hS
                  refine lv_icmp_ne (tgt := 246) hx hb dX5_goesBy_218 (by decide) (fun c24 => ?_) (fun c24 => ?_)
                  · replace hM := sx_iff c24 hM
                    refine lv_iconst (v := 0) hx hb dX5_goesBy_246 (by decide) ?_
                    exact hk_247 (0 : Int32) _ _ _ hM (lv_sub hl [0, 1, 2] rfl) (hP.sub [0, 1, 2] rfl) (hD.sub [0, 1, 2] (by decide) rfl) hS
                  · replace hM := sx_ift c24 hM
                    refine lv_aload_n hx hb dX5_goesBy_221 rfl (lv_at hl 0 rfl) ?_
                    refine lv_iload_n hx hb dX5_goesBy_222 rfl (lv_at hl 1 rfl) ?_
                    refine lv_iload_n hx hb dX5_goesBy_223 rfl (lv_at hl 2 rfl) ?_
                    obtain ⟨r25, hc26, hM⟩ := sx_c1_s hM
                    refine sx_iV (As := [.int x8, .int x13]) (rest := []) (wc := [(m_h, .inr (5, [.ref m_now_a, .ref m_tape_a, .int m_typed, .int m_place, .int m_isFault, .ref m_read_a, .ref m_heard_a, .ref m_undone_a, .int m_undos, .ref m_aside_a, .ref m_kept_a, .int m_keptUndos, .int m_isKept, .ref m_lanes_a, .ref m_sizes_a, .ref m_items_a, .ref m_moved_a])), (m_now_a, .inl (cI, 65, .inl z14))]) (wr := [(m_heard_a, .inl (cI, 8, .inl z2))]) (w1 := [(m_h, .inr (5, [.ref m_now_a, .ref m_tape_a, .int m_typed, .int m_place, .int m_isFault, .ref m_read_a, .ref m_heard_a, .ref m_undone_a, .int m_undos, .ref m_aside_a, .ref m_kept_a, .int m_keptUndos, .int m_isKept, .ref m_lanes_a, .ref m_sizes_a, .ref m_items_a, .ref m_moved_a])), (m_now_a, .inl (cI, 65, .inl z14))]) ⟨hx, hb, hml, hown, hts⟩ (mtX5_knows l D cI cJ cS H.size m_h m_now_a m_tape_a m_read_a m_heard_a m_undone_a m_aside_a m_kept_a m_lanes_a m_sizes_a m_items_a m_moved_a z14 m_typed m_place m_isFault m_undos m_keptUndos m_isKept x8 x13 F r25 hc26) (cwV 2 hts gX5_goesBy_X5_knows rfl rfl rfl (by decide +kernel) ⟨Nat.le_trans (by decide) hRf, Nat.le_trans (by decide) hRl⟩) hK hN hP hD hS hA [0, 1] [2] rfl (by decide) rfl (by decide) (by decide) rfl rfl rfl rfl hl.1 rfl (Nat.le_of_ble_eq_true rfl) dX5_goesBy_224 hRc (fun H locs hP hD hS => ?_)
                    have hP : va_P D vwCl [(m_heard_a, .inl (cI, 8, .inl z2)), (m_h, .inr (5, [.ref m_now_a, .ref m_tape_a, .int m_typed, .int m_place, .int m_isFault, .ref m_read_a, .ref m_heard_a, .ref m_undone_a, .int m_undos, .ref m_aside_a, .ref m_kept_a, .int m_keptUndos, .int m_isKept, .ref m_lanes_a, .ref m_sizes_a, .ref m_items_a, .ref m_moved_a])), (m_now_a, .inl (cI, 65, .inl z14))] H := hP
                    have hD : va_D A [(m_heard_a, .inl (cI, 8, .inl z2)), (m_h, .inr (5, [.ref m_now_a, .ref m_tape_a, .int m_typed, .int m_place, .int m_isFault, .ref m_read_a, .ref m_heard_a, .ref m_undone_a, .int m_undos, .ref m_aside_a, .ref m_kept_a, .int m_keptUndos, .int m_isKept, .ref m_lanes_a, .ref m_sizes_a, .ref m_items_a, .ref m_moved_a])), (m_now_a, .inl (cI, 65, .inl z14))] := hD
                    refine lv_if_ne (tgt := 246) hx hb dX5_goesBy_227 (by decide) (fun c27 => ?_) (fun c27 => ?_)
                    · replace hM := sx_iff c27 hM
                      refine lv_iconst (v := 0) hx hb dX5_goesBy_246 (by decide) ?_
                      exact hk_247 (0 : Int32) _ _ _ hM (lv_sub hl [0, 1, 2] rfl) (hP.sub [1, 2, 0] rfl) (hD.sub [1, 2, 0] (by decide) rfl) hS
                    · replace hM := sx_ift c27 hM
                      refine lv_aload_n hx hb dX5_goesBy_230 rfl (lv_at hl 0 rfl) ?_
                      refine va_get (D := D) (ci := 5) (v := .ref m_now_a) (C := RX5) (T := TX5) (N := 17) hx hb hts hin_X5 hown hK hP 1 rfl rfl 0 (by decide) hf_7 (fun _ h9 => h9) rfl dX5_goesBy_231 ?_
                      refine lv_iconst (v := 5) hx hb dX5_goesBy_234 (by decide) ?_
                      refine lv_iload_n hx hb dX5_goesBy_235 rfl (lv_at hl 1 rfl) ?_
                      refine lv_iadd hx hb dX5_goesBy_236 ?_
                      obtain ⟨g28, hM⟩ := sx_gd_s hM
                      refine va_iald hx hb hK hP 2 0 rfl rfl (sx_ib_s g28) dX5_goesBy_237 ?_
                      refine lv_iconst (v := 4) hx hb dX5_goesBy_238 (by decide) ?_
                      refine lv_icmp_eq (tgt := 246) hx hb dX5_goesBy_239 (by decide) (fun c29 => ?_) (fun c29 => ?_)
                      · replace hM := sx_ift c29 hM
                        refine lv_iconst (v := 0) hx hb dX5_goesBy_246 (by decide) ?_
                        exact hk_247 (0 : Int32) _ _ _ hM (lv_sub hl [0, 1, 2] rfl) (hP.sub [1, 2, 0] rfl) (hD.sub [1, 2, 0] (by decide) rfl) hS
                      · replace hM := sx_iff c29 hM
                        refine lv_iconst (v := 1) hx hb dX5_goesBy_242 (by decide) ?_
                        refine lv_goto (tgt := 247) hx hb dX5_goesBy_243 (by decide) ?_
                        exact hk_247 (1 : Int32) _ _ _ hM (lv_sub hl [0, 1, 2] rfl) (hP.sub [1, 2, 0] rfl) (hD.sub [1, 2, 0] (by decide) rfl) hS
            exact lp_201 F (0 : Int32) z9 _ _ _ hM (lv_sub hl [1, 2, 0] rfl) (hP.sub [0, 1, 2] rfl) (hD.sub [0, 1, 2] (by decide) rfl) hS
      exact lp_189 F (0 : Int32) z1 _ _ _ hM (lv_sub hl [1, 0] rfl) (hP.sub [0, 1, 2] rfl) (hD.sub [0, 1, 2] (by decide) rfl) hS
    have lp_100 : ∀ (n : Nat) (x30 : Int32) (z31 : Nat → Int32) (H : Heap) (locs : List Loc) (ls : Array Slot), sx_lp2 (bdX5_goesBy_100 F z1 k_187) n x30 z31 = some (w_m_now, w_m_heard) → lv_has ls 6 [(0, .ref m_h), (2, .int x30)] → va_P D vwCl [(m_h, .inr (5, [.ref m_now_a, .ref m_tape_a, .int m_typed, .int m_place, .int m_isFault, .ref m_read_a, .ref m_heard_a, .ref m_undone_a, .int m_undos, .ref m_aside_a, .ref m_kept_a, .int m_keptUndos, .int m_isKept, .ref m_lanes_a, .ref m_sizes_a, .ref m_items_a, .ref m_moved_a])), (m_now_a, .inl (cI, 65, .inl z1)), (m_heard_a, .inl (cI, 8, .inl z31))] H → va_D A [(m_h, .inr (5, [.ref m_now_a, .ref m_tape_a, .int m_typed, .int m_place, .int m_isFault, .ref m_read_a, .ref m_heard_a, .ref m_undone_a, .int m_undos, .ref m_aside_a, .ref m_kept_a, .int m_keptUndos, .int m_isKept, .ref m_lanes_a, .ref m_sizes_a, .ref m_items_a, .ref m_moved_a])), (m_now_a, .inl (cI, 65, .inl z1)), (m_heard_a, .inl (cI, 8, .inl z31))] → va_S A H0 H locs → W p l e R s m args below meth c H locs cells slots Q (F0 m 100 ls ([])) := by
      intro n
      induction n with
      | zero => intro x30 z31 H locs ls hM; exact (sx_lp2_0 hM).elim
      | succ n ih =>
        intro x30 z31 H locs ls hM hl hP hD hS
        have hM : bdX5_goesBy_100 F z1 k_187 (sx_lp2 (bdX5_goesBy_100 F z1 k_187) n) x30 z31 = some (w_m_now, w_m_heard) := hM
        generalize sx_lp2 (bdX5_goesBy_100 F z1 k_187) n = r_100 at hM ih
        unfold bdX5_goesBy_100 at hM
        refine lv_iload_n hx hb dX5_goesBy_100 rfl (lv_at hl 1 rfl) ?_
        refine lv_bipush (v := 8) hx hb dX5_goesBy_101 (by decide) ?_
        refine lv_icmp_ge (tgt := 187) hx hb dX5_goesBy_103 (by decide) (fun c32 => ?_) (fun c32 => ?_)
        · replace hM := sx_ift c32 hM
          exact hk_187 z31 _ _ _ hM (lv_sub hl [0] rfl) (hP.sub [0, 1, 2] rfl) (hD.sub [0, 1, 2] (by decide) rfl) hS
        · replace hM := sx_iff c32 hM
          refine lv_aload_n hx hb dX5_goesBy_106 rfl (lv_at hl 0 rfl) ?_
          refine va_get (D := D) (ci := 5) (v := .ref m_heard_a) (C := RX5) (T := TX5) (N := 17) hx hb hts hin_X5 hown hK hP 0 rfl rfl 6 (by decide) hf_19 (fun _ h9 => h9) rfl dX5_goesBy_107 ?_
          refine lv_iload_n hx hb dX5_goesBy_110 rfl (lv_at hl 1 rfl) ?_
          refine lv_iconst (v := 0) hx hb dX5_goesBy_111 (by decide) ?_
          obtain ⟨g33, hM⟩ := sx_gd_s hM
          refine va_iast hx hb hK hP hD hS 2 0 rfl rfl (sx_ib_s g33) dX5_goesBy_112 (fun H locs hP hD hS => ?_)
          have hP : va_P D vwCl [(m_h, .inr (5, [.ref m_now_a, .ref m_tape_a, .int m_typed, .int m_place, .int m_isFault, .ref m_read_a, .ref m_heard_a, .ref m_undone_a, .int m_undos, .ref m_aside_a, .ref m_kept_a, .int m_keptUndos, .int m_isKept, .ref m_lanes_a, .ref m_sizes_a, .ref m_items_a, .ref m_moved_a])), (m_now_a, .inl (cI, 65, .inl z1)), (m_heard_a, .inl (cI, 8, .inl (upd z31 (x30).toNatClampNeg (0 : Int32))))] H := hP
          have hD : va_D A [(m_h, .inr (5, [.ref m_now_a, .ref m_tape_a, .int m_typed, .int m_place, .int m_isFault, .ref m_read_a, .ref m_heard_a, .ref m_undone_a, .int m_undos, .ref m_aside_a, .ref m_kept_a, .int m_keptUndos, .int m_isKept, .ref m_lanes_a, .ref m_sizes_a, .ref m_items_a, .ref m_moved_a])), (m_now_a, .inl (cI, 65, .inl z1)), (m_heard_a, .inl (cI, 8, .inl (upd z31 (x30).toNatClampNeg (0 : Int32))))] := hD
          refine lv_iconst (v := 0) hx hb dX5_goesBy_113 (by decide) ?_
          refine lv_istore_n (lv' := [(3, .int (0 : Int32)), (0, .ref m_h), (2, .int x30)]) hx hb dX5_goesBy_114 rfl hl (by decide) rfl (fun ls hl => ?_)
          obtain ⟨k_181, ek_181, hM⟩ := sx_lt_s hM
          have hk_181 : ∀ (z34 : Nat → Int32) (H : Heap) (locs : List Loc) (ls : Array Slot), k_181 z34 = some (w_m_now, w_m_heard) → lv_has ls 6 [(0, .ref m_h), (2, .int x30)] → va_P D vwCl [(m_h, .inr (5, [.ref m_now_a, .ref m_tape_a, .int m_typed, .int m_place, .int m_isFault, .ref m_read_a, .ref m_heard_a, .ref m_undone_a, .int m_undos, .ref m_aside_a, .ref m_kept_a, .int m_keptUndos, .int m_isKept, .ref m_lanes_a, .ref m_sizes_a, .ref m_items_a, .ref m_moved_a])), (m_now_a, .inl (cI, 65, .inl z1)), (m_heard_a, .inl (cI, 8, .inl z34))] H → va_D A [(m_h, .inr (5, [.ref m_now_a, .ref m_tape_a, .int m_typed, .int m_place, .int m_isFault, .ref m_read_a, .ref m_heard_a, .ref m_undone_a, .int m_undos, .ref m_aside_a, .ref m_kept_a, .int m_keptUndos, .int m_isKept, .ref m_lanes_a, .ref m_sizes_a, .ref m_items_a, .ref m_moved_a])), (m_now_a, .inl (cI, 65, .inl z1)), (m_heard_a, .inl (cI, 8, .inl z34))] → va_S A H0 H locs → W p l e R s m args below meth c H locs cells slots Q (F0 m 181 ls ([])) := by
            intro z34 H locs ls hM hl hP hD hS
            rw [ek_181] at hM
            obtain ⟨v35, ev35, hM⟩ := sx_nm_s hM
            refine lv_iinc (v := v35) (lv' := [(2, .int v35), (0, .ref m_h)]) hx hb dX5_goesBy_181 hl (k := 1) rfl (by rw [ev35]; rfl) (by decide) rfl (fun ls hl => ?_)
            refine lv_goto (tgt := 100) hx hb dX5_goesBy_184 (by decide) ?_
            exact ih v35 z34 _ _ _ hM (lv_sub hl [1, 0] rfl) (hP.sub [0, 1, 2] rfl) (hD.sub [0, 1, 2] (by decide) rfl) hS
          have lp_115 : ∀ (n : Nat) (x36 : Int32) (z37 : Nat → Int32) (H : Heap) (locs : List Loc) (ls : Array Slot), sx_lp2 (bdX5_goesBy_115 F x30 z1 k_181) n x36 z37 = some (w_m_now, w_m_heard) → lv_has ls 6 [(0, .ref m_h), (2, .int x30), (3, .int x36)] → va_P D vwCl [(m_h, .inr (5, [.ref m_now_a, .ref m_tape_a, .int m_typed, .int m_place, .int m_isFault, .ref m_read_a, .ref m_heard_a, .ref m_undone_a, .int m_undos, .ref m_aside_a, .ref m_kept_a, .int m_keptUndos, .int m_isKept, .ref m_lanes_a, .ref m_sizes_a, .ref m_items_a, .ref m_moved_a])), (m_now_a, .inl (cI, 65, .inl z1)), (m_heard_a, .inl (cI, 8, .inl z37))] H → va_D A [(m_h, .inr (5, [.ref m_now_a, .ref m_tape_a, .int m_typed, .int m_place, .int m_isFault, .ref m_read_a, .ref m_heard_a, .ref m_undone_a, .int m_undos, .ref m_aside_a, .ref m_kept_a, .int m_keptUndos, .int m_isKept, .ref m_lanes_a, .ref m_sizes_a, .ref m_items_a, .ref m_moved_a])), (m_now_a, .inl (cI, 65, .inl z1)), (m_heard_a, .inl (cI, 8, .inl z37))] → va_S A H0 H locs → W p l e R s m args below meth c H locs cells slots Q (F0 m 115 ls ([])) := by
            intro n
            induction n with
            | zero => intro x36 z37 H locs ls hM; exact (sx_lp2_0 hM).elim
            | succ n ih =>
              intro x36 z37 H locs ls hM hl hP hD hS
              have hM : bdX5_goesBy_115 F x30 z1 k_181 (sx_lp2 (bdX5_goesBy_115 F x30 z1 k_181) n) x36 z37 = some (w_m_now, w_m_heard) := hM
              generalize sx_lp2 (bdX5_goesBy_115 F x30 z1 k_181) n = r_115 at hM ih
              unfold bdX5_goesBy_115 at hM
              refine lv_iload_n hx hb dX5_goesBy_115 rfl (lv_at hl 2 rfl) ?_
              refine lv_aload_n hx hb dX5_goesBy_116 rfl (lv_at hl 0 rfl) ?_
              refine va_get (D := D) (ci := 5) (v := .ref m_now_a) (C := RX5) (T := TX5) (N := 17) hx hb hts hin_X5 hown hK hP 0 rfl rfl 0 (by decide) hf_7 (fun _ h9 => h9) rfl dX5_goesBy_117 ?_
              refine lv_iconst (v := 0) hx hb dX5_goesBy_120 (by decide) ?_
              refine va_iald hx hb hK hP 1 0 rfl rfl (sx_ib_s (by decide)) dX5_goesBy_121 ?_
              refine lv_icmp_ge (tgt := 181) hx hb dX5_goesBy_122 (by decide) (fun c38 => ?_) (fun c38 => ?_)
              · replace hM := sx_ift c38 hM
                exact hk_181 z37 _ _ _ hM (lv_sub hl [0, 1] rfl) (hP.sub [0, 1, 2] rfl) (hD.sub [0, 1, 2] (by decide) rfl) hS
              · replace hM := sx_iff c38 hM
                refine lv_aload_n hx hb dX5_goesBy_125 rfl (lv_at hl 0 rfl) ?_
                refine lv_iload_n hx hb dX5_goesBy_126 rfl (lv_at hl 2 rfl) ?_
                refine lv_iload_n hx hb dX5_goesBy_127 rfl (lv_at hl 1 rfl) ?_
                obtain ⟨r39, hc40, hM⟩ := sx_c1_s hM
                refine sx_iV (As := [.int x36, .int x30]) (rest := []) (wc := [(m_h, .inr (5, [.ref m_now_a, .ref m_tape_a, .int m_typed, .int m_place, .int m_isFault, .ref m_read_a, .ref m_heard_a, .ref m_undone_a, .int m_undos, .ref m_aside_a, .ref m_kept_a, .int m_keptUndos, .int m_isKept, .ref m_lanes_a, .ref m_sizes_a, .ref m_items_a, .ref m_moved_a])), (m_now_a, .inl (cI, 65, .inl z1))]) (wr := [(m_heard_a, .inl (cI, 8, .inl z37))]) (w1 := [(m_h, .inr (5, [.ref m_now_a, .ref m_tape_a, .int m_typed, .int m_place, .int m_isFault, .ref m_read_a, .ref m_heard_a, .ref m_undone_a, .int m_undos, .ref m_aside_a, .ref m_kept_a, .int m_keptUndos, .int m_isKept, .ref m_lanes_a, .ref m_sizes_a, .ref m_items_a, .ref m_moved_a])), (m_now_a, .inl (cI, 65, .inl z1))]) ⟨hx, hb, hml, hown, hts⟩ (mtX5_sealOf l D cI cJ cS H.size m_h m_now_a m_tape_a m_read_a m_heard_a m_undone_a m_aside_a m_kept_a m_lanes_a m_sizes_a m_items_a m_moved_a z1 m_typed m_place m_isFault m_undos m_keptUndos m_isKept x36 x30 F r39 hc40) (cwV 2 hts gX5_goesBy_X5_sealOf rfl rfl rfl (by decide +kernel) ⟨Nat.le_trans (by decide) hRf, Nat.le_trans (by decide) hRl⟩) hK hN hP hD hS hA [0, 1] [2] rfl (by decide) rfl (by decide) (by decide) rfl rfl rfl rfl hl.1 rfl (Nat.le_of_ble_eq_true rfl) dX5_goesBy_128 hRc (fun H locs hP hD hS => ?_)
                have hP : va_P D vwCl [(m_heard_a, .inl (cI, 8, .inl z37)), (m_h, .inr (5, [.ref m_now_a, .ref m_tape_a, .int m_typed, .int m_place, .int m_isFault, .ref m_read_a, .ref m_heard_a, .ref m_undone_a, .int m_undos, .ref m_aside_a, .ref m_kept_a, .int m_keptUndos, .int m_isKept, .ref m_lanes_a, .ref m_sizes_a, .ref m_items_a, .ref m_moved_a])), (m_now_a, .inl (cI, 65, .inl z1))] H := hP
                have hD : va_D A [(m_heard_a, .inl (cI, 8, .inl z37)), (m_h, .inr (5, [.ref m_now_a, .ref m_tape_a, .int m_typed, .int m_place, .int m_isFault, .ref m_read_a, .ref m_heard_a, .ref m_undone_a, .int m_undos, .ref m_aside_a, .ref m_kept_a, .int m_keptUndos, .int m_isKept, .ref m_lanes_a, .ref m_sizes_a, .ref m_items_a, .ref m_moved_a])), (m_now_a, .inl (cI, 65, .inl z1))] := hD
                obtain ⟨k_175, ek_175, hM⟩ := sx_lt_s hM
                have hk_175 : ∀ (z41 : Nat → Int32) (H : Heap) (locs : List Loc) (ls : Array Slot), k_175 z41 = some (w_m_now, w_m_heard) → lv_has ls 6 [(0, .ref m_h), (2, .int x30), (3, .int x36)] → va_P D vwCl [(m_heard_a, .inl (cI, 8, .inl z41)), (m_h, .inr (5, [.ref m_now_a, .ref m_tape_a, .int m_typed, .int m_place, .int m_isFault, .ref m_read_a, .ref m_heard_a, .ref m_undone_a, .int m_undos, .ref m_aside_a, .ref m_kept_a, .int m_keptUndos, .int m_isKept, .ref m_lanes_a, .ref m_sizes_a, .ref m_items_a, .ref m_moved_a])), (m_now_a, .inl (cI, 65, .inl z1))] H → va_D A [(m_heard_a, .inl (cI, 8, .inl z41)), (m_h, .inr (5, [.ref m_now_a, .ref m_tape_a, .int m_typed, .int m_place, .int m_isFault, .ref m_read_a, .ref m_heard_a, .ref m_undone_a, .int m_undos, .ref m_aside_a, .ref m_kept_a, .int m_keptUndos, .int m_isKept, .ref m_lanes_a, .ref m_sizes_a, .ref m_items_a, .ref m_moved_a])), (m_now_a, .inl (cI, 65, .inl z1))] → va_S A H0 H locs → W p l e R s m args below meth c H locs cells slots Q (F0 m 175 ls ([])) := by
                  intro z41 H locs ls hM hl hP hD hS
                  rw [ek_175] at hM
                  obtain ⟨v42, ev42, hM⟩ := sx_nm_s hM
                  refine lv_iinc (v := v42) (lv' := [(3, .int v42), (0, .ref m_h), (2, .int x30)]) hx hb dX5_goesBy_175 hl (k := 2) rfl (by rw [ev42]; rfl) (by decide) rfl (fun ls hl => ?_)
                  refine lv_goto (tgt := 115) hx hb dX5_goesBy_178 (by decide) ?_
                  exact ih v42 z41 _ _ _ hM (lv_sub hl [1, 2, 0] rfl) (hP.sub [1, 2, 0] rfl) (hD.sub [1, 2, 0] (by decide) rfl) hS
                refine lv_if_ne (tgt := 175) hx hb dX5_goesBy_131 (by decide) (fun c43 => ?_) (fun c43 => ?_)
                · replace hM := sx_iff c43 hM
                  exact hk_175 z37 _ _ _ hM (lv_sub hl [0, 1, 2] rfl) (hP.sub [0, 1, 2] rfl) (hD.sub [0, 1, 2] (by decide) rfl) hS
                · replace hM := sx_ift c43 hM
                  refine lv_aload_n hx hb dX5_goesBy_134 rfl (lv_at hl 0 rfl) ?_
                  refine lv_iload_n hx hb dX5_goesBy_135 rfl (lv_at hl 2 rfl) ?_
                  obtain ⟨r44, hc45, hM⟩ := sx_c1_s hM
                  refine sx_iV (As := [.int x36]) (rest := []) (wc := [(m_h, .inr (5, [.ref m_now_a, .ref m_tape_a, .int m_typed, .int m_place, .int m_isFault, .ref m_read_a, .ref m_heard_a, .ref m_undone_a, .int m_undos, .ref m_aside_a, .ref m_kept_a, .int m_keptUndos, .int m_isKept, .ref m_lanes_a, .ref m_sizes_a, .ref m_items_a, .ref m_moved_a])), (m_now_a, .inl (cI, 65, .inl z1))]) (wr := [(m_heard_a, .inl (cI, 8, .inl z37))]) (w1 := [(m_h, .inr (5, [.ref m_now_a, .ref m_tape_a, .int m_typed, .int m_place, .int m_isFault, .ref m_read_a, .ref m_heard_a, .ref m_undone_a, .int m_undos, .ref m_aside_a, .ref m_kept_a, .int m_keptUndos, .int m_isKept, .ref m_lanes_a, .ref m_sizes_a, .ref m_items_a, .ref m_moved_a])), (m_now_a, .inl (cI, 65, .inl z1))]) ⟨hx, hb, hml, hown, hts⟩ (mtX5_isSilent l D cI cJ cS H.size m_h m_now_a m_tape_a m_read_a m_heard_a m_undone_a m_aside_a m_kept_a m_lanes_a m_sizes_a m_items_a m_moved_a z1 m_typed m_place m_isFault m_undos m_keptUndos m_isKept x36 F r44 hc45) (cwV 1 hts gX5_goesBy_X5_isSilent rfl rfl rfl (by decide +kernel) ⟨Nat.le_trans (by decide) hRf, Nat.le_trans (by decide) hRl⟩) hK hN hP hD hS hA [1, 2] [0] rfl (by decide) rfl (by decide) (by decide) rfl rfl rfl rfl hl.1 rfl (Nat.le_of_ble_eq_true rfl) dX5_goesBy_136 hRc (fun H locs hP hD hS => ?_)
                  have hP : va_P D vwCl [(m_heard_a, .inl (cI, 8, .inl z37)), (m_h, .inr (5, [.ref m_now_a, .ref m_tape_a, .int m_typed, .int m_place, .int m_isFault, .ref m_read_a, .ref m_heard_a, .ref m_undone_a, .int m_undos, .ref m_aside_a, .ref m_kept_a, .int m_keptUndos, .int m_isKept, .ref m_lanes_a, .ref m_sizes_a, .ref m_items_a, .ref m_moved_a])), (m_now_a, .inl (cI, 65, .inl z1))] H := hP
                  have hD : va_D A [(m_heard_a, .inl (cI, 8, .inl z37)), (m_h, .inr (5, [.ref m_now_a, .ref m_tape_a, .int m_typed, .int m_place, .int m_isFault, .ref m_read_a, .ref m_heard_a, .ref m_undone_a, .int m_undos, .ref m_aside_a, .ref m_kept_a, .int m_keptUndos, .int m_isKept, .ref m_lanes_a, .ref m_sizes_a, .ref m_items_a, .ref m_moved_a])), (m_now_a, .inl (cI, 65, .inl z1))] := hD
                  refine lv_if_ne (tgt := 175) hx hb dX5_goesBy_139 (by decide) (fun c46 => ?_) (fun c46 => ?_)
                  · replace hM := sx_iff c46 hM
                    exact hk_175 z37 _ _ _ hM (lv_sub hl [0, 1, 2] rfl) (hP.sub [0, 1, 2] rfl) (hD.sub [0, 1, 2] (by decide) rfl) hS
                  · replace hM := sx_ift c46 hM
                    refine lv_aload_n hx hb dX5_goesBy_142 rfl (lv_at hl 0 rfl) ?_
                    refine va_get (D := D) (ci := 5) (v := .ref m_heard_a) (C := RX5) (T := TX5) (N := 17) hx hb hts hin_X5 hown hK hP 1 rfl rfl 6 (by decide) hf_19 (fun _ h9 => h9) rfl dX5_goesBy_143 ?_
                    refine lv_iload_n hx hb dX5_goesBy_146 rfl (lv_at hl 1 rfl) ?_
                    refine lv_dup2_11 hx hb dX5_goesBy_147 rfl rfl ?_
                    obtain ⟨g47, hM⟩ := sx_gd_s hM
                    refine va_iald hx hb hK hP 0 0 rfl rfl (sx_ib_s g47) dX5_goesBy_148 ?_
                    refine lv_iconst (v := 1) hx hb dX5_goesBy_149 (by decide) ?_
                    refine lv_aload_n hx hb dX5_goesBy_150 rfl (lv_at hl 0 rfl) ?_
                    refine lv_iload_n hx hb dX5_goesBy_151 rfl (lv_at hl 2 rfl) ?_
                    refine lv_iconst (v := 1) hx hb dX5_goesBy_152 (by decide) ?_
                    obtain ⟨r48, hc49, hM⟩ := sx_c1_s hM
                    refine sx_iV (As := [.int x36, .int (1 : Int32)]) (rest := [.int (1 : Int32), .int (z37 (x30).toNatClampNeg), .int x30, .ref m_heard_a]) (wc := [(m_h, .inr (5, [.ref m_now_a, .ref m_tape_a, .int m_typed, .int m_place, .int m_isFault, .ref m_read_a, .ref m_heard_a, .ref m_undone_a, .int m_undos, .ref m_aside_a, .ref m_kept_a, .int m_keptUndos, .int m_isKept, .ref m_lanes_a, .ref m_sizes_a, .ref m_items_a, .ref m_moved_a])), (m_now_a, .inl (cI, 65, .inl z1))]) (wr := [(m_heard_a, .inl (cI, 8, .inl z37))]) (w1 := [(m_h, .inr (5, [.ref m_now_a, .ref m_tape_a, .int m_typed, .int m_place, .int m_isFault, .ref m_read_a, .ref m_heard_a, .ref m_undone_a, .int m_undos, .ref m_aside_a, .ref m_kept_a, .int m_keptUndos, .int m_isKept, .ref m_lanes_a, .ref m_sizes_a, .ref m_items_a, .ref m_moved_a])), (m_now_a, .inl (cI, 65, .inl z1))]) ⟨hx, hb, hml, hown, hts⟩ (mtX5_beside l D cI cJ cS H.size m_h m_now_a m_tape_a m_read_a m_heard_a m_undone_a m_aside_a m_kept_a m_lanes_a m_sizes_a m_items_a m_moved_a z1 m_typed m_place m_isFault m_undos m_keptUndos m_isKept x36 (1 : Int32) F r48 hc49) (cwV 2 hts gX5_goesBy_X5_beside rfl rfl rfl (by decide +kernel) ⟨Nat.le_trans (by decide) hRf, Nat.le_trans (by decide) hRl⟩) hK hN hP hD hS hA [1, 2] [0] rfl (by decide) rfl (by decide) (by decide) rfl rfl rfl rfl hl.1 rfl (Nat.le_of_ble_eq_true rfl) dX5_goesBy_153 hRc (fun H locs hP hD hS => ?_)
                    have hP : va_P D vwCl [(m_heard_a, .inl (cI, 8, .inl z37)), (m_h, .inr (5, [.ref m_now_a, .ref m_tape_a, .int m_typed, .int m_place, .int m_isFault, .ref m_read_a, .ref m_heard_a, .ref m_undone_a, .int m_undos, .ref m_aside_a, .ref m_kept_a, .int m_keptUndos, .int m_isKept, .ref m_lanes_a, .ref m_sizes_a, .ref m_items_a, .ref m_moved_a])), (m_now_a, .inl (cI, 65, .inl z1))] H := hP
                    have hD : va_D A [(m_heard_a, .inl (cI, 8, .inl z37)), (m_h, .inr (5, [.ref m_now_a, .ref m_tape_a, .int m_typed, .int m_place, .int m_isFault, .ref m_read_a, .ref m_heard_a, .ref m_undone_a, .int m_undos, .ref m_aside_a, .ref m_kept_a, .int m_keptUndos, .int m_isKept, .ref m_lanes_a, .ref m_sizes_a, .ref m_items_a, .ref m_moved_a])), (m_now_a, .inl (cI, 65, .inl z1))] := hD
                    refine lv_ishl hx hb dX5_goesBy_156 ?_
                    refine lv_iconst (v := 1) hx hb dX5_goesBy_157 (by decide) ?_
                    refine lv_aload_n hx hb dX5_goesBy_158 rfl (lv_at hl 0 rfl) ?_
                    refine lv_iload_n hx hb dX5_goesBy_159 rfl (lv_at hl 2 rfl) ?_
                    refine lv_aload_n hx hb dX5_goesBy_160 rfl (lv_at hl 0 rfl) ?_
                    refine va_get (D := D) (ci := 5) (v := .ref m_now_a) (C := RX5) (T := TX5) (N := 17) hx hb hts hin_X5 hown hK hP 1 rfl rfl 0 (by decide) hf_7 (fun _ h9 => h9) rfl dX5_goesBy_161 ?_
                    refine lv_iconst (v := 0) hx hb dX5_goesBy_164 (by decide) ?_
                    refine va_iald hx hb hK hP 2 0 rfl rfl (sx_ib_s (by decide)) dX5_goesBy_165 ?_
                    refine lv_iconst (v := 1) hx hb dX5_goesBy_166 (by decide) ?_
                    refine lv_isub hx hb dX5_goesBy_167 ?_
                    obtain ⟨r50, hc51, hM⟩ := sx_c1_s hM
                    refine sx_iV (As := [.int x36, .int ((z1 ((0 : Int32)).toNatClampNeg) - (1 : Int32))]) (rest := [.int (1 : Int32), .int ((1 : Int32) <<< (r48 &&& 31)), .int (z37 (x30).toNatClampNeg), .int x30, .ref m_heard_a]) (wc := [(m_h, .inr (5, [.ref m_now_a, .ref m_tape_a, .int m_typed, .int m_place, .int m_isFault, .ref m_read_a, .ref m_heard_a, .ref m_undone_a, .int m_undos, .ref m_aside_a, .ref m_kept_a, .int m_keptUndos, .int m_isKept, .ref m_lanes_a, .ref m_sizes_a, .ref m_items_a, .ref m_moved_a])), (m_now_a, .inl (cI, 65, .inl z1))]) (wr := [(m_heard_a, .inl (cI, 8, .inl z37))]) (w1 := [(m_h, .inr (5, [.ref m_now_a, .ref m_tape_a, .int m_typed, .int m_place, .int m_isFault, .ref m_read_a, .ref m_heard_a, .ref m_undone_a, .int m_undos, .ref m_aside_a, .ref m_kept_a, .int m_keptUndos, .int m_isKept, .ref m_lanes_a, .ref m_sizes_a, .ref m_items_a, .ref m_moved_a])), (m_now_a, .inl (cI, 65, .inl z1))]) ⟨hx, hb, hml, hown, hts⟩ (mtX5_beside l D cI cJ cS H.size m_h m_now_a m_tape_a m_read_a m_heard_a m_undone_a m_aside_a m_kept_a m_lanes_a m_sizes_a m_items_a m_moved_a z1 m_typed m_place m_isFault m_undos m_keptUndos m_isKept x36 ((z1 ((0 : Int32)).toNatClampNeg) - (1 : Int32)) F r50 hc51) (cwV 2 hts gX5_goesBy_X5_beside rfl rfl rfl (by decide +kernel) ⟨Nat.le_trans (by decide) hRf, Nat.le_trans (by decide) hRl⟩) hK hN hP hD hS hA [1, 2] [0] rfl (by decide) rfl (by decide) (by decide) rfl rfl rfl rfl hl.1 rfl (Nat.le_of_ble_eq_true rfl) dX5_goesBy_168 hRc (fun H locs hP hD hS => ?_)
                    have hP : va_P D vwCl [(m_heard_a, .inl (cI, 8, .inl z37)), (m_h, .inr (5, [.ref m_now_a, .ref m_tape_a, .int m_typed, .int m_place, .int m_isFault, .ref m_read_a, .ref m_heard_a, .ref m_undone_a, .int m_undos, .ref m_aside_a, .ref m_kept_a, .int m_keptUndos, .int m_isKept, .ref m_lanes_a, .ref m_sizes_a, .ref m_items_a, .ref m_moved_a])), (m_now_a, .inl (cI, 65, .inl z1))] H := hP
                    have hD : va_D A [(m_heard_a, .inl (cI, 8, .inl z37)), (m_h, .inr (5, [.ref m_now_a, .ref m_tape_a, .int m_typed, .int m_place, .int m_isFault, .ref m_read_a, .ref m_heard_a, .ref m_undone_a, .int m_undos, .ref m_aside_a, .ref m_kept_a, .int m_keptUndos, .int m_isKept, .ref m_lanes_a, .ref m_sizes_a, .ref m_items_a, .ref m_moved_a])), (m_now_a, .inl (cI, 65, .inl z1))] := hD
                    refine lv_ishl hx hb dX5_goesBy_171 ?_
                    refine lv_ior hx hb dX5_goesBy_172 ?_
                    refine lv_ior hx hb dX5_goesBy_173 ?_
                    obtain ⟨g52, hM⟩ := sx_gd_s hM
                    refine va_iast hx hb hK hP hD hS 0 0 rfl rfl (sx_ib_s g52) dX5_goesBy_174 (fun H locs hP hD hS => ?_)
                    have hP : va_P D vwCl [(m_heard_a, .inl (cI, 8, .inl (upd z37 (x30).toNatClampNeg ((z37 (x30).toNatClampNeg) ||| (((1 : Int32) <<< (r48 &&& 31)) ||| ((1 : Int32) <<< (r50 &&& 31))))))), (m_h, .inr (5, [.ref m_now_a, .ref m_tape_a, .int m_typed, .int m_place, .int m_isFault, .ref m_read_a, .ref m_heard_a, .ref m_undone_a, .int m_undos, .ref m_aside_a, .ref m_kept_a, .int m_keptUndos, .int m_isKept, .ref m_lanes_a, .ref m_sizes_a, .ref m_items_a, .ref m_moved_a])), (m_now_a, .inl (cI, 65, .inl z1))] H := hP
                    have hD : va_D A [(m_heard_a, .inl (cI, 8, .inl (upd z37 (x30).toNatClampNeg ((z37 (x30).toNatClampNeg) ||| (((1 : Int32) <<< (r48 &&& 31)) ||| ((1 : Int32) <<< (r50 &&& 31))))))), (m_h, .inr (5, [.ref m_now_a, .ref m_tape_a, .int m_typed, .int m_place, .int m_isFault, .ref m_read_a, .ref m_heard_a, .ref m_undone_a, .int m_undos, .ref m_aside_a, .ref m_kept_a, .int m_keptUndos, .int m_isKept, .ref m_lanes_a, .ref m_sizes_a, .ref m_items_a, .ref m_moved_a])), (m_now_a, .inl (cI, 65, .inl z1))] := hD
                    exact hk_175 (upd z37 (x30).toNatClampNeg ((z37 (x30).toNatClampNeg) ||| (((1 : Int32) <<< (r48 &&& 31)) ||| ((1 : Int32) <<< (r50 &&& 31))))) _ _ _ hM (lv_sub hl [0, 1, 2] rfl) (hP.sub [0, 1, 2] rfl) (hD.sub [0, 1, 2] (by decide) rfl) hS
          exact lp_115 F (0 : Int32) (upd z31 (x30).toNatClampNeg (0 : Int32)) _ _ _ hM (lv_sub hl [1, 2, 0] rfl) (hP.sub [0, 1, 2] rfl) (hD.sub [0, 1, 2] (by decide) rfl) hS
    exact lp_100 F (0 : Int32) m_heard _ _ _ hM (lv_sub hl [1, 0] rfl) (hP.sub [0, 1, 2] rfl) (hD.sub [0, 1, 2] (by decide) rfl) hS
  have lp_2 : ∀ (n : Nat) (x53 : Int32) (z54 : Nat → Int32) (H : Heap) (locs : List Loc) (ls : Array Slot), sx_lp2 (bdX5_goesBy_2 F a1 k_98) n x53 z54 = some (w_m_now, w_m_heard) → lv_has ls 6 [(0, .ref m_h), (1, .int a1), (2, .int x53)] → va_P D vwCl [(m_h, .inr (5, [.ref m_now_a, .ref m_tape_a, .int m_typed, .int m_place, .int m_isFault, .ref m_read_a, .ref m_heard_a, .ref m_undone_a, .int m_undos, .ref m_aside_a, .ref m_kept_a, .int m_keptUndos, .int m_isKept, .ref m_lanes_a, .ref m_sizes_a, .ref m_items_a, .ref m_moved_a])), (m_now_a, .inl (cI, 65, .inl z54)), (m_heard_a, .inl (cI, 8, .inl m_heard))] H → va_D A [(m_h, .inr (5, [.ref m_now_a, .ref m_tape_a, .int m_typed, .int m_place, .int m_isFault, .ref m_read_a, .ref m_heard_a, .ref m_undone_a, .int m_undos, .ref m_aside_a, .ref m_kept_a, .int m_keptUndos, .int m_isKept, .ref m_lanes_a, .ref m_sizes_a, .ref m_items_a, .ref m_moved_a])), (m_now_a, .inl (cI, 65, .inl z54)), (m_heard_a, .inl (cI, 8, .inl m_heard))] → va_S A H0 H locs → W p l e R s m args below meth c H locs cells slots Q (F0 m 2 ls ([])) := by
    intro n
    induction n with
    | zero => intro x53 z54 H locs ls hM; exact (sx_lp2_0 hM).elim
    | succ n ih =>
      intro x53 z54 H locs ls hM hl hP hD hS
      have hM : bdX5_goesBy_2 F a1 k_98 (sx_lp2 (bdX5_goesBy_2 F a1 k_98) n) x53 z54 = some (w_m_now, w_m_heard) := hM
      generalize sx_lp2 (bdX5_goesBy_2 F a1 k_98) n = r_2 at hM ih
      unfold bdX5_goesBy_2 at hM
      refine lv_iload_n hx hb dX5_goesBy_2 rfl (lv_at hl 2 rfl) ?_
      refine lv_aload_n hx hb dX5_goesBy_3 rfl (lv_at hl 0 rfl) ?_
      refine va_get (D := D) (ci := 5) (v := .ref m_now_a) (C := RX5) (T := TX5) (N := 17) hx hb hts hin_X5 hown hK hP 0 rfl rfl 0 (by decide) hf_7 (fun _ h9 => h9) rfl dX5_goesBy_4 ?_
      refine lv_iconst (v := 0) hx hb dX5_goesBy_7 (by decide) ?_
      refine va_iald hx hb hK hP 1 0 rfl rfl (sx_ib_s (by decide)) dX5_goesBy_8 ?_
      refine lv_icmp_ge (tgt := 98) hx hb dX5_goesBy_9 (by decide) (fun c55 => ?_) (fun c55 => ?_)
      · replace hM := sx_ift c55 hM
        exact hk_98 z54 _ _ _ hM (lv_sub hl [0] rfl) (hP.sub [0, 1, 2] rfl) (hD.sub [0, 1, 2] (by decide) rfl) hS
      · replace hM := sx_iff c55 hM
        refine lv_aload_n hx hb dX5_goesBy_12 rfl (lv_at hl 0 rfl) ?_
        refine lv_iload_n hx hb dX5_goesBy_13 rfl (lv_at hl 2 rfl) ?_
        refine lv_iload_n hx hb dX5_goesBy_14 rfl (lv_at hl 1 rfl) ?_
        obtain ⟨r56, hc57, hM⟩ := sx_c1_s hM
        refine sx_iV (As := [.int x53, .int a1]) (rest := []) (wc := [(m_h, .inr (5, [.ref m_now_a, .ref m_tape_a, .int m_typed, .int m_place, .int m_isFault, .ref m_read_a, .ref m_heard_a, .ref m_undone_a, .int m_undos, .ref m_aside_a, .ref m_kept_a, .int m_keptUndos, .int m_isKept, .ref m_lanes_a, .ref m_sizes_a, .ref m_items_a, .ref m_moved_a])), (m_now_a, .inl (cI, 65, .inl z54))]) (wr := [(m_heard_a, .inl (cI, 8, .inl m_heard))]) (w1 := [(m_h, .inr (5, [.ref m_now_a, .ref m_tape_a, .int m_typed, .int m_place, .int m_isFault, .ref m_read_a, .ref m_heard_a, .ref m_undone_a, .int m_undos, .ref m_aside_a, .ref m_kept_a, .int m_keptUndos, .int m_isKept, .ref m_lanes_a, .ref m_sizes_a, .ref m_items_a, .ref m_moved_a])), (m_now_a, .inl (cI, 65, .inl z54))]) ⟨hx, hb, hml, hown, hts⟩ (mtX5_weakens l D cI cJ cS H.size m_h m_now_a m_tape_a m_read_a m_heard_a m_undone_a m_aside_a m_kept_a m_lanes_a m_sizes_a m_items_a m_moved_a z54 m_typed m_place m_isFault m_undos m_keptUndos m_isKept x53 a1 F r56 hc57) (cwV 2 hts gX5_goesBy_X5_weakens rfl rfl rfl (by decide +kernel) ⟨Nat.le_trans (by decide) hRf, Nat.le_trans (by decide) hRl⟩) hK hN hP hD hS hA [0, 1] [2] rfl (by decide) rfl (by decide) (by decide) rfl rfl rfl rfl hl.1 rfl (Nat.le_of_ble_eq_true rfl) dX5_goesBy_15 hRc (fun H locs hP hD hS => ?_)
        have hP : va_P D vwCl [(m_heard_a, .inl (cI, 8, .inl m_heard)), (m_h, .inr (5, [.ref m_now_a, .ref m_tape_a, .int m_typed, .int m_place, .int m_isFault, .ref m_read_a, .ref m_heard_a, .ref m_undone_a, .int m_undos, .ref m_aside_a, .ref m_kept_a, .int m_keptUndos, .int m_isKept, .ref m_lanes_a, .ref m_sizes_a, .ref m_items_a, .ref m_moved_a])), (m_now_a, .inl (cI, 65, .inl z54))] H := hP
        have hD : va_D A [(m_heard_a, .inl (cI, 8, .inl m_heard)), (m_h, .inr (5, [.ref m_now_a, .ref m_tape_a, .int m_typed, .int m_place, .int m_isFault, .ref m_read_a, .ref m_heard_a, .ref m_undone_a, .int m_undos, .ref m_aside_a, .ref m_kept_a, .int m_keptUndos, .int m_isKept, .ref m_lanes_a, .ref m_sizes_a, .ref m_items_a, .ref m_moved_a])), (m_now_a, .inl (cI, 65, .inl z54))] := hD
        refine lv_istore_n (lv' := [(3, .int r56), (0, .ref m_h), (1, .int a1), (2, .int x53)]) hx hb dX5_goesBy_18 rfl hl (by decide) rfl (fun ls hl => ?_)
        refine lv_iconst (v := 0) hx hb dX5_goesBy_19 (by decide) ?_
        refine lv_istore (lv' := [(4, .int (0 : Int32)), (3, .int r56), (0, .ref m_h), (1, .int a1), (2, .int x53)]) hx hb dX5_goesBy_20 hl (by decide) rfl (fun ls hl => ?_)
        obtain ⟨k_92, ek_92, hM⟩ := sx_lt_s hM
        have hk_92 : ∀ (z58 : Nat → Int32) (H : Heap) (locs : List Loc) (ls : Array Slot), k_92 z58 = some (w_m_now, w_m_heard) → lv_has ls 6 [(0, .ref m_h), (1, .int a1), (2, .int x53)] → va_P D vwCl [(m_heard_a, .inl (cI, 8, .inl m_heard)), (m_h, .inr (5, [.ref m_now_a, .ref m_tape_a, .int m_typed, .int m_place, .int m_isFault, .ref m_read_a, .ref m_heard_a, .ref m_undone_a, .int m_undos, .ref m_aside_a, .ref m_kept_a, .int m_keptUndos, .int m_isKept, .ref m_lanes_a, .ref m_sizes_a, .ref m_items_a, .ref m_moved_a])), (m_now_a, .inl (cI, 65, .inl z58))] H → va_D A [(m_heard_a, .inl (cI, 8, .inl m_heard)), (m_h, .inr (5, [.ref m_now_a, .ref m_tape_a, .int m_typed, .int m_place, .int m_isFault, .ref m_read_a, .ref m_heard_a, .ref m_undone_a, .int m_undos, .ref m_aside_a, .ref m_kept_a, .int m_keptUndos, .int m_isKept, .ref m_lanes_a, .ref m_sizes_a, .ref m_items_a, .ref m_moved_a])), (m_now_a, .inl (cI, 65, .inl z58))] → va_S A H0 H locs → W p l e R s m args below meth c H locs cells slots Q (F0 m 92 ls ([])) := by
          intro z58 H locs ls hM hl hP hD hS
          rw [ek_92] at hM
          obtain ⟨v59, ev59, hM⟩ := sx_nm_s hM
          refine lv_iinc (v := v59) (lv' := [(2, .int v59), (0, .ref m_h), (1, .int a1)]) hx hb dX5_goesBy_92 hl (k := 2) rfl (by rw [ev59]; rfl) (by decide) rfl (fun ls hl => ?_)
          refine lv_goto (tgt := 2) hx hb dX5_goesBy_95 (by decide) ?_
          exact ih v59 z58 _ _ _ hM (lv_sub hl [1, 2, 0] rfl) (hP.sub [1, 2, 0] rfl) (hD.sub [1, 2, 0] (by decide) rfl) hS
        have lp_22 : ∀ (n : Nat) (x60 : Int32) (z61 : Nat → Int32) (H : Heap) (locs : List Loc) (ls : Array Slot), sx_lp2 (bdX5_goesBy_22 F x53 r56 k_92) n x60 z61 = some (w_m_now, w_m_heard) → lv_has ls 6 [(0, .ref m_h), (1, .int a1), (2, .int x53), (3, .int r56), (4, .int x60)] → va_P D vwCl [(m_heard_a, .inl (cI, 8, .inl m_heard)), (m_h, .inr (5, [.ref m_now_a, .ref m_tape_a, .int m_typed, .int m_place, .int m_isFault, .ref m_read_a, .ref m_heard_a, .ref m_undone_a, .int m_undos, .ref m_aside_a, .ref m_kept_a, .int m_keptUndos, .int m_isKept, .ref m_lanes_a, .ref m_sizes_a, .ref m_items_a, .ref m_moved_a])), (m_now_a, .inl (cI, 65, .inl z61))] H → va_D A [(m_heard_a, .inl (cI, 8, .inl m_heard)), (m_h, .inr (5, [.ref m_now_a, .ref m_tape_a, .int m_typed, .int m_place, .int m_isFault, .ref m_read_a, .ref m_heard_a, .ref m_undone_a, .int m_undos, .ref m_aside_a, .ref m_kept_a, .int m_keptUndos, .int m_isKept, .ref m_lanes_a, .ref m_sizes_a, .ref m_items_a, .ref m_moved_a])), (m_now_a, .inl (cI, 65, .inl z61))] → va_S A H0 H locs → W p l e R s m args below meth c H locs cells slots Q (F0 m 22 ls ([])) := by
          intro n
          induction n with
          | zero => intro x60 z61 H locs ls hM; exact (sx_lp2_0 hM).elim
          | succ n ih =>
            intro x60 z61 H locs ls hM hl hP hD hS
            have hM : bdX5_goesBy_22 F x53 r56 k_92 (sx_lp2 (bdX5_goesBy_22 F x53 r56 k_92) n) x60 z61 = some (w_m_now, w_m_heard) := hM
            generalize sx_lp2 (bdX5_goesBy_22 F x53 r56 k_92) n = r_22 at hM ih
            unfold bdX5_goesBy_22 at hM
            refine lv_iload hx hb dX5_goesBy_22 (lv_at hl 4 rfl) ?_
            refine lv_bipush (v := 8) hx hb dX5_goesBy_24 (by decide) ?_
            refine lv_icmp_ge (tgt := 92) hx hb dX5_goesBy_26 (by decide) (fun c62 => ?_) (fun c62 => ?_)
            · replace hM := sx_ift c62 hM
              exact hk_92 z61 _ _ _ hM (lv_sub hl [0, 1, 2] rfl) (hP.sub [0, 1, 2] rfl) (hD.sub [0, 1, 2] (by decide) rfl) hS
            · replace hM := sx_iff c62 hM
              refine lv_bipush (v := 17) hx hb dX5_goesBy_29 (by decide) ?_
              refine lv_bipush (v := 8) hx hb dX5_goesBy_31 (by decide) ?_
              refine lv_iload_n hx hb dX5_goesBy_33 rfl (lv_at hl 2 rfl) ?_
              refine lv_imul hx hb dX5_goesBy_34 ?_
              refine lv_iadd hx hb dX5_goesBy_35 ?_
              refine lv_iload hx hb dX5_goesBy_36 (lv_at hl 4 rfl) ?_
              refine lv_iadd hx hb dX5_goesBy_38 ?_
              obtain ⟨v63, ev63, hM⟩ := sx_nm_s hM
              refine W.eq (g2 := F0 m 39 ls (.int v63 :: [])) (by subst ev63; rfl) ?_
              refine lv_istore (lv' := [(5, .int v63), (0, .ref m_h), (1, .int a1), (2, .int x53), (3, .int r56), (4, .int x60)]) hx hb dX5_goesBy_39 hl (by decide) rfl (fun ls hl => ?_)
              refine lv_aload_n hx hb dX5_goesBy_41 rfl (lv_at hl 1 rfl) ?_
              refine va_get (D := D) (ci := 5) (v := .ref m_now_a) (C := RX5) (T := TX5) (N := 17) hx hb hts hin_X5 hown hK hP 1 rfl rfl 0 (by decide) hf_7 (fun _ h9 => h9) rfl dX5_goesBy_42 ?_
              refine lv_iload hx hb dX5_goesBy_45 (lv_at hl 0 rfl) ?_
              refine lv_aload_n hx hb dX5_goesBy_47 rfl (lv_at hl 1 rfl) ?_
              refine va_get (D := D) (ci := 5) (v := .ref m_now_a) (C := RX5) (T := TX5) (N := 17) hx hb hts hin_X5 hown hK hP 1 rfl rfl 0 (by decide) hf_7 (fun _ h9 => h9) rfl dX5_goesBy_48 ?_
              refine lv_iload hx hb dX5_goesBy_51 (lv_at hl 0 rfl) ?_
              obtain ⟨g64, hM⟩ := sx_gd_s hM
              refine va_iald hx hb hK hP 2 0 rfl rfl (sx_ib_s g64) dX5_goesBy_53 ?_
              obtain ⟨k_85, ek_85, hM⟩ := sx_lt_s hM
              have hk_85 : ∀ (y65 : Int32) (H : Heap) (locs : List Loc) (ls : Array Slot), k_85 y65 = some (w_m_now, w_m_heard) → lv_has ls 6 [(0, .ref m_h), (1, .int a1), (2, .int x53), (3, .int r56), (4, .int x60)] → va_P D vwCl [(m_heard_a, .inl (cI, 8, .inl m_heard)), (m_h, .inr (5, [.ref m_now_a, .ref m_tape_a, .int m_typed, .int m_place, .int m_isFault, .ref m_read_a, .ref m_heard_a, .ref m_undone_a, .int m_undos, .ref m_aside_a, .ref m_kept_a, .int m_keptUndos, .int m_isKept, .ref m_lanes_a, .ref m_sizes_a, .ref m_items_a, .ref m_moved_a])), (m_now_a, .inl (cI, 65, .inl z61))] H → va_D A [(m_heard_a, .inl (cI, 8, .inl m_heard)), (m_h, .inr (5, [.ref m_now_a, .ref m_tape_a, .int m_typed, .int m_place, .int m_isFault, .ref m_read_a, .ref m_heard_a, .ref m_undone_a, .int m_undos, .ref m_aside_a, .ref m_kept_a, .int m_keptUndos, .int m_isKept, .ref m_lanes_a, .ref m_sizes_a, .ref m_items_a, .ref m_moved_a])), (m_now_a, .inl (cI, 65, .inl z61))] → va_S A H0 H locs → W p l e R s m args below meth c H locs cells slots Q (F0 m 85 ls (.int y65 :: .int v63 :: .ref m_now_a :: [])) := by
                intro y65 H locs ls hM hl hP hD hS
                rw [ek_85] at hM
                obtain ⟨g66, hM⟩ := sx_gd_s hM
                refine va_iast hx hb hK hP hD hS 2 0 rfl rfl (sx_ib_s g66) dX5_goesBy_85 (fun H locs hP hD hS => ?_)
                have hP : va_P D vwCl [(m_heard_a, .inl (cI, 8, .inl m_heard)), (m_h, .inr (5, [.ref m_now_a, .ref m_tape_a, .int m_typed, .int m_place, .int m_isFault, .ref m_read_a, .ref m_heard_a, .ref m_undone_a, .int m_undos, .ref m_aside_a, .ref m_kept_a, .int m_keptUndos, .int m_isKept, .ref m_lanes_a, .ref m_sizes_a, .ref m_items_a, .ref m_moved_a])), (m_now_a, .inl (cI, 65, .inl (upd z61 (v63).toNatClampNeg y65)))] H := hP
                have hD : va_D A [(m_heard_a, .inl (cI, 8, .inl m_heard)), (m_h, .inr (5, [.ref m_now_a, .ref m_tape_a, .int m_typed, .int m_place, .int m_isFault, .ref m_read_a, .ref m_heard_a, .ref m_undone_a, .int m_undos, .ref m_aside_a, .ref m_kept_a, .int m_keptUndos, .int m_isKept, .ref m_lanes_a, .ref m_sizes_a, .ref m_items_a, .ref m_moved_a])), (m_now_a, .inl (cI, 65, .inl (upd z61 (v63).toNatClampNeg y65)))] := hD
                obtain ⟨v67, ev67, hM⟩ := sx_nm_s hM
                refine lv_iinc (v := v67) (lv' := [(4, .int v67), (0, .ref m_h), (1, .int a1), (2, .int x53), (3, .int r56)]) hx hb dX5_goesBy_86 hl (k := 4) rfl (by rw [ev67]; rfl) (by decide) rfl (fun ls hl => ?_)
                refine lv_goto (tgt := 22) hx hb dX5_goesBy_89 (by decide) ?_
                exact ih v67 (upd z61 (v63).toNatClampNeg y65) _ _ _ hM (lv_sub hl [1, 2, 3, 4, 0] rfl) (hP.sub [0, 1, 2] rfl) (hD.sub [0, 1, 2] (by decide) rfl) hS
              refine lv_if_ge (tgt := 61) hx hb dX5_goesBy_54 (by decide) (fun c68 => ?_) (fun c68 => ?_)
              · replace hM := sx_ift c68 hM
                refine lv_aload_n hx hb dX5_goesBy_61 rfl (lv_at hl 1 rfl) ?_
                refine va_get (D := D) (ci := 5) (v := .ref m_now_a) (C := RX5) (T := TX5) (N := 17) hx hb hts hin_X5 hown hK hP 1 rfl rfl 0 (by decide) hf_7 (fun _ h9 => h9) rfl dX5_goesBy_62 ?_
                refine lv_iload hx hb dX5_goesBy_65 (lv_at hl 0 rfl) ?_
                obtain ⟨g69, hM⟩ := sx_gd_s hM
                refine va_iald hx hb hK hP 2 0 rfl rfl (sx_ib_s g69) dX5_goesBy_67 ?_
                refine lv_iload_n hx hb dX5_goesBy_68 rfl (lv_at hl 4 rfl) ?_
                refine lv_icmp_le (tgt := 84) hx hb dX5_goesBy_69 (by decide) (fun c70 => ?_) (fun c70 => ?_)
                · replace hM := sx_ift c70 hM
                  refine lv_iconst (v := 0) hx hb dX5_goesBy_84 (by decide) ?_
                  exact hk_85 (0 : Int32) _ _ _ hM (lv_sub hl [1, 2, 3, 4, 5] rfl) (hP.sub [0, 1, 2] rfl) (hD.sub [0, 1, 2] (by decide) rfl) hS
                · replace hM := sx_iff c70 hM
                  refine lv_aload_n hx hb dX5_goesBy_72 rfl (lv_at hl 1 rfl) ?_
                  refine va_get (D := D) (ci := 5) (v := .ref m_now_a) (C := RX5) (T := TX5) (N := 17) hx hb hts hin_X5 hown hK hP 1 rfl rfl 0 (by decide) hf_7 (fun _ h9 => h9) rfl dX5_goesBy_73 ?_
                  refine lv_iload hx hb dX5_goesBy_76 (lv_at hl 0 rfl) ?_
                  obtain ⟨g71, hM⟩ := sx_gd_s hM
                  refine va_iald hx hb hK hP 2 0 rfl rfl (sx_ib_s g71) dX5_goesBy_78 ?_
                  refine lv_iload_n hx hb dX5_goesBy_79 rfl (lv_at hl 4 rfl) ?_
                  refine lv_isub hx hb dX5_goesBy_80 ?_
                  refine lv_goto (tgt := 85) hx hb dX5_goesBy_81 (by decide) ?_
                  exact hk_85 ((z61 (v63).toNatClampNeg) - r56) _ _ _ hM (lv_sub hl [1, 2, 3, 4, 5] rfl) (hP.sub [0, 1, 2] rfl) (hD.sub [0, 1, 2] (by decide) rfl) hS
              · replace hM := sx_iff c68 hM
                refine lv_iconst (v := -1) hx hb dX5_goesBy_57 (by decide) ?_
                refine lv_goto (tgt := 85) hx hb dX5_goesBy_58 (by decide) ?_
                exact hk_85 (-1 : Int32) _ _ _ hM (lv_sub hl [1, 2, 3, 4, 5] rfl) (hP.sub [0, 1, 2] rfl) (hD.sub [0, 1, 2] (by decide) rfl) hS
        exact lp_22 F (0 : Int32) z54 _ _ _ hM (lv_sub hl [2, 3, 4, 1, 0] rfl) (hP.sub [0, 1, 2] rfl) (hD.sub [0, 1, 2] (by decide) rfl) hS
  exact lp_2 F (0 : Int32) m_now _ _ _ hM (lv_sub hl [1, 2, 0] rfl) (hP.sub [0, 1, 2] rfl) (hD.sub [0, 1, 2] (by decide) rfl) hS
set_option maxHeartbeats 4000000 in
set_option maxRecDepth 100000 in
theorem mtX5_goesBy (l : Launch) (D : va_G) (cI cJ cS : ClassId) (sz : Nat) (m_h m_now_a m_tape_a m_read_a m_heard_a m_undone_a m_aside_a m_kept_a m_lanes_a m_sizes_a m_items_a m_moved_a : Nat) (m_now : Nat → Int32) (m_typed : Int32) (m_place : Int32) (m_isFault : Int32) (m_heard : Nat → Int32) (m_undos : Int32) (m_keptUndos : Int32) (m_isKept : Int32) (a1 : Int32) (F : Nat) (w_m_now : Nat → Int32) (w_m_heard : Nat → Int32) (hM : fnX5_goesBy F m_now m_heard a1 = some (w_m_now, w_m_heard)) : sx_MV l yX5_goesBy wsX5_goesBy ({ frames := 2, cells := 0, slots := 0, locals := 44 }) D (sx_T cI cJ cS) sz [.ref m_h, .int a1] [(m_h, .inr (5, [.ref m_now_a, .ref m_tape_a, .int m_typed, .int m_place, .int m_isFault, .ref m_read_a, .ref m_heard_a, .ref m_undone_a, .int m_undos, .ref m_aside_a, .ref m_kept_a, .int m_keptUndos, .int m_isKept, .ref m_lanes_a, .ref m_sizes_a, .ref m_items_a, .ref m_moved_a])), (m_now_a, .inl (cI, 65, .inl m_now)), (m_heard_a, .inl (cI, 8, .inl m_heard))] [(m_h, .inr (5, [.ref m_now_a, .ref m_tape_a, .int m_typed, .int m_place, .int m_isFault, .ref m_read_a, .ref m_heard_a, .ref m_undone_a, .int m_undos, .ref m_aside_a, .ref m_kept_a, .int m_keptUndos, .int m_isKept, .ref m_lanes_a, .ref m_sizes_a, .ref m_items_a, .ref m_moved_a])), (m_now_a, .inl (cI, 65, .inl w_m_now)), (m_heard_a, .inl (cI, 8, .inl w_m_heard))] := by
  refine Met.ofW (cc := cX5_goesBy) (maxL := 6) (ret := none) (by decide) rfl ?_
  intro p e s m args below meth c s₁ B hml hv
  obtain ⟨rfl, hsz, hN, hP, hK, hD0⟩ := hv
  subst hsz
  have hl := lv_entry ([.ref m_h, .int a1]) (n := 6) (Nat.le_of_ble_eq_true rfl)
  rw [lg_entry_eq]
  generalize (lg_sl ([.ref m_h, .int a1]) ++ List.replicate (6 - (lg_sl ([.ref m_h, .int a1])).length) Slot.unset).toArray = ls at hl ⊢
  exact kwX5_goesBy B.exec B.bytes hml (findClass_of_methodNamed B.named) (atoms_spec (ws := wsX5_goesBy) B.pre) hN hK (fun q h => Or.inr h) (by decide) (by decide) ⟨Nat.zero_le _, Nat.zero_le _⟩ m_h m_now_a m_tape_a m_read_a m_heard_a m_undone_a m_aside_a m_kept_a m_lanes_a m_sizes_a m_items_a m_moved_a m_now m_typed m_place m_isFault m_heard m_undos m_keptUndos m_isKept a1 F w_m_now w_m_heard hM _ _ _ hl hP hD0.self va_S.rf (fun H1 locs1 ls1 pc1 hd hP hD hS => W.vret B.exec B.bytes B.returns (fun t ht hW => ⟨⟨(), rfl, trivial, by rw [ht]; exact hP, hD⟩, hS.F ht⟩) hS.2.2 hd)
