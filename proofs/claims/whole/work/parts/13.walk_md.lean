def bdX5_out_22 (F : Nat) (x1_ : Int32) (x2_ : Int32) (kf_47 : Int32 → (Nat → Int32) → (Nat → Int32) → Option (Int32 × (Nat → Int32) × (Nat → Int32) × (Nat → Int32))) (r_ : Int32 → (Nat → Int32) → (Nat → Int32) → Option (Int32 × (Nat → Int32) × (Nat → Int32) × (Nat → Int32))) (x3_ : Int32) (m_now : Nat → Int32) (m_heard : Nat → Int32) : Option (Int32 × (Nat → Int32) × (Nat → Int32) × (Nat → Int32)) :=
  (if (61 : Int32) ≤ x3_ then (kf_47 x3_ m_now m_heard) else sx_c1 (fnX5_isOut F m_now x1_) (fun (r19 : Int32) => (if r19 = 0 then sx_c2 (fnX5_goesBy F m_now m_heard x2_) (fun (w22 : Nat → Int32) (w23 : Nat → Int32) => sx_nm (x3_ + (1 : Int32)) (fun (v25 : Int32) => (r_ v25 w22 w23))) else (kf_47 x3_ m_now m_heard))))
def fnX5_out (F : Nat) (m_now : Nat → Int32) (m_heard : Nat → Int32) (m_aside : Nat → Int32) (a1 : Int32) (a2 : Int32) : Option (Int32 × (Nat → Int32) × (Nat → Int32) × (Nat → Int32)) :=
  sx_c1 (fnX5_isThing F a1) (fun (r1 : Int32) => (if r1 = 0 then (some ((-1 : Int32), m_now, m_heard, m_aside)) else sx_c1 (fnX5_isHeat F a2) (fun (r4 : Int32) => (if r4 = 0 then (some ((-1 : Int32), m_now, m_heard, m_aside)) else sx_c1 (fnX5_asides F m_now m_aside) (fun (w7 : Nat → Int32) => sx_lt (fun (x9 : Int32) (z10 : Nat → Int32) (z11 : Nat → Int32) => sx_c1 (fnX5_backs F z10 w7) (fun (w12 : Nat → Int32) => (if x9 ≤ (60 : Int32) then (some (x9, w12, z11, w7)) else (some ((-4 : Int32), w12, z11, w7))))) (fun (k_47 : Int32 → (Nat → Int32) → (Nat → Int32) → Option (Int32 × (Nat → Int32) × (Nat → Int32) × (Nat → Int32))) => sx_lp3 (bdX5_out_22 F a1 a2 k_47) F (0 : Int32) m_now m_heard))))))
set_option maxHeartbeats 4000000 in
set_option maxRecDepth 100000 in
theorem kwX5_out {p : Program} {l : Launch} {e : Env} {R : Room} {s : State} {m : MethodId} {args : Array Value} {below : List Frame} {meth : Method} {c : Code} {cells slots : Nat} {Q : State → Prop} {A : Nat → Prop} {H0 : Heap} {D : va_G} {cI cJ cS : ClassId} (hx : p.tables.exec = Jvm.exec) (hb : c.code = cX5_out) (hml : c.maxLocals = 4) (hown : s.vm.findClass RX5 = some m.cls) (hts : ∀ w ∈ wsX5_out, w.before args s = true) (hN : sx_N s) (hK : va_K D vwCl (sx_T cI cJ cS) s) (hA : ∀ q, H0.size ≤ q → A q) (hRf : 4 ≤ R.frames) (hRl : 88 ≤ R.locals) (hRc : cells ≤ R.cells ∧ slots ≤ R.slots) (m_h m_now_a m_tape_a m_read_a m_heard_a m_undone_a m_aside_a m_kept_a m_lanes_a m_sizes_a m_items_a m_moved_a : Nat) (m_now : Nat → Int32) (m_typed : Int32) (m_place : Int32) (m_isFault : Int32) (m_heard : Nat → Int32) (m_undos : Int32) (m_aside : Nat → Int32) (m_keptUndos : Int32) (m_isKept : Int32) (a1 : Int32) (a2 : Int32) (F : Nat) (r0 : Int32) (w_m_now : Nat → Int32) (w_m_heard : Nat → Int32) (w_m_aside : Nat → Int32) (hM : fnX5_out F m_now m_heard m_aside a1 a2 = some (r0, w_m_now, w_m_heard, w_m_aside)) (H : Heap) (locs : List Loc) (ls : Array Slot) (hl : lv_has ls 4 [(0, .ref m_h), (1, .int a1), (2, .int a2)]) (hP : va_P D vwCl [(m_h, .inr (5, [.ref m_now_a, .ref m_tape_a, .int m_typed, .int m_place, .int m_isFault, .ref m_read_a, .ref m_heard_a, .ref m_undone_a, .int m_undos, .ref m_aside_a, .ref m_kept_a, .int m_keptUndos, .int m_isKept, .ref m_lanes_a, .ref m_sizes_a, .ref m_items_a, .ref m_moved_a])), (m_now_a, .inl (cI, 65, .inl m_now)), (m_heard_a, .inl (cI, 8, .inl m_heard)), (m_aside_a, .inl (cI, 65, .inl m_aside))] H) (hD : va_D A [(m_h, .inr (5, [.ref m_now_a, .ref m_tape_a, .int m_typed, .int m_place, .int m_isFault, .ref m_read_a, .ref m_heard_a, .ref m_undone_a, .int m_undos, .ref m_aside_a, .ref m_kept_a, .int m_keptUndos, .int m_isKept, .ref m_lanes_a, .ref m_sizes_a, .ref m_items_a, .ref m_moved_a])), (m_now_a, .inl (cI, 65, .inl m_now)), (m_heard_a, .inl (cI, 8, .inl m_heard)), (m_aside_a, .inl (cI, 65, .inl m_aside))]) (hS : va_S A H0 H locs)
    (hret : ∀ (H1 : Heap) (locs1 : List Loc) (ls1 : Array Slot) (pc1 : Nat), decode cX5_out pc1 = .ok (.ireturn, 1) → va_P D vwCl [(m_h, .inr (5, [.ref m_now_a, .ref m_tape_a, .int m_typed, .int m_place, .int m_isFault, .ref m_read_a, .ref m_heard_a, .ref m_undone_a, .int m_undos, .ref m_aside_a, .ref m_kept_a, .int m_keptUndos, .int m_isKept, .ref m_lanes_a, .ref m_sizes_a, .ref m_items_a, .ref m_moved_a])), (m_now_a, .inl (cI, 65, .inl w_m_now)), (m_heard_a, .inl (cI, 8, .inl w_m_heard)), (m_aside_a, .inl (cI, 65, .inl w_m_aside))] H1 → va_D A [(m_h, .inr (5, [.ref m_now_a, .ref m_tape_a, .int m_typed, .int m_place, .int m_isFault, .ref m_read_a, .ref m_heard_a, .ref m_undone_a, .int m_undos, .ref m_aside_a, .ref m_kept_a, .int m_keptUndos, .int m_isKept, .ref m_lanes_a, .ref m_sizes_a, .ref m_items_a, .ref m_moved_a])), (m_now_a, .inl (cI, 65, .inl w_m_now)), (m_heard_a, .inl (cI, 8, .inl w_m_heard)), (m_aside_a, .inl (cI, 65, .inl w_m_aside))] → va_S A H0 H1 locs1 → W p l e R s m args below meth c H1 locs1 cells slots Q (F0 m pc1 ls1 [.int r0])) : W p l e R s m args below meth c H locs cells slots Q (F0 m 0 ls []) := by
  unfold fnX5_out at hM
  refine lv_iload_n hx hb dX5_out_0 rfl (lv_at hl 1 rfl) ?_
  obtain ⟨r1, hc2, hM⟩ := sx_c1_s hM
  refine sx_iS (As := [.int a1]) (rest := []) (wc := []) (wr := [(m_h, .inr (5, [.ref m_now_a, .ref m_tape_a, .int m_typed, .int m_place, .int m_isFault, .ref m_read_a, .ref m_heard_a, .ref m_undone_a, .int m_undos, .ref m_aside_a, .ref m_kept_a, .int m_keptUndos, .int m_isKept, .ref m_lanes_a, .ref m_sizes_a, .ref m_items_a, .ref m_moved_a])), (m_now_a, .inl (cI, 65, .inl m_now)), (m_heard_a, .inl (cI, 8, .inl m_heard)), (m_aside_a, .inl (cI, 65, .inl m_aside))]) (w1 := []) ⟨hx, hb, hml, hown, hts⟩ (mtX5_isThing l D cI cJ cS H.size a1 F r1 hc2) (va_cwS 1 hts gX5_out_X5_isThing rfl rfl rfl (by decide +kernel) ⟨Nat.le_trans (by decide) hRf, Nat.le_trans (by decide) hRl⟩) hK hN hP hD hS hA [] [0, 1, 2, 3] rfl (by decide) rfl (by decide) (by decide) rfl hl.1 rfl (Nat.le_of_ble_eq_true rfl) dX5_out_1 hRc (fun H locs hP hD hS => ?_)
  have hP : va_P D vwCl [(m_h, .inr (5, [.ref m_now_a, .ref m_tape_a, .int m_typed, .int m_place, .int m_isFault, .ref m_read_a, .ref m_heard_a, .ref m_undone_a, .int m_undos, .ref m_aside_a, .ref m_kept_a, .int m_keptUndos, .int m_isKept, .ref m_lanes_a, .ref m_sizes_a, .ref m_items_a, .ref m_moved_a])), (m_now_a, .inl (cI, 65, .inl m_now)), (m_heard_a, .inl (cI, 8, .inl m_heard)), (m_aside_a, .inl (cI, 65, .inl m_aside))] H := hP
  have hD : va_D A [(m_h, .inr (5, [.ref m_now_a, .ref m_tape_a, .int m_typed, .int m_place, .int m_isFault, .ref m_read_a, .ref m_heard_a, .ref m_undone_a, .int m_undos, .ref m_aside_a, .ref m_kept_a, .int m_keptUndos, .int m_isKept, .ref m_lanes_a, .ref m_sizes_a, .ref m_items_a, .ref m_moved_a])), (m_now_a, .inl (cI, 65, .inl m_now)), (m_heard_a, .inl (cI, 8, .inl m_heard)), (m_aside_a, .inl (cI, 65, .inl m_aside))] := hD
  refine lv_if_eq (tgt := 14) hx hb dX5_out_4 (by decide) (fun c3 => ?_) (fun c3 => ?_)
  · replace hM := sx_ift c3 hM
    refine lv_iconst (v := -1) hx hb dX5_out_14 (by decide) ?_
    obtain ⟨rfl, rfl, rfl, rfl⟩ := sx_o4 hM
    exact hret _ _ _ _ dX5_out_15 (hP.sub [0, 1, 2, 3] rfl) (hD.sub [0, 1, 2, 3] (by decide) rfl) hS
  · replace hM := sx_iff c3 hM
    refine lv_iload_n hx hb dX5_out_7 rfl (lv_at hl 2 rfl) ?_
    obtain ⟨r4, hc5, hM⟩ := sx_c1_s hM
    refine sx_iS (As := [.int a2]) (rest := []) (wc := []) (wr := [(m_h, .inr (5, [.ref m_now_a, .ref m_tape_a, .int m_typed, .int m_place, .int m_isFault, .ref m_read_a, .ref m_heard_a, .ref m_undone_a, .int m_undos, .ref m_aside_a, .ref m_kept_a, .int m_keptUndos, .int m_isKept, .ref m_lanes_a, .ref m_sizes_a, .ref m_items_a, .ref m_moved_a])), (m_now_a, .inl (cI, 65, .inl m_now)), (m_heard_a, .inl (cI, 8, .inl m_heard)), (m_aside_a, .inl (cI, 65, .inl m_aside))]) (w1 := []) ⟨hx, hb, hml, hown, hts⟩ (mtX5_isHeat l D cI cJ cS H.size a2 F r4 hc5) (va_cwS 1 hts gX5_out_X5_isHeat rfl rfl rfl (by decide +kernel) ⟨Nat.le_trans (by decide) hRf, Nat.le_trans (by decide) hRl⟩) hK hN hP hD hS hA [] [0, 1, 2, 3] rfl (by decide) rfl (by decide) (by decide) rfl hl.1 rfl (Nat.le_of_ble_eq_true rfl) dX5_out_8 hRc (fun H locs hP hD hS => ?_)
    have hP : va_P D vwCl [(m_h, .inr (5, [.ref m_now_a, .ref m_tape_a, .int m_typed, .int m_place, .int m_isFault, .ref m_read_a, .ref m_heard_a, .ref m_undone_a, .int m_undos, .ref m_aside_a, .ref m_kept_a, .int m_keptUndos, .int m_isKept, .ref m_lanes_a, .ref m_sizes_a, .ref m_items_a, .ref m_moved_a])), (m_now_a, .inl (cI, 65, .inl m_now)), (m_heard_a, .inl (cI, 8, .inl m_heard)), (m_aside_a, .inl (cI, 65, .inl m_aside))] H := hP
    have hD : va_D A [(m_h, .inr (5, [.ref m_now_a, .ref m_tape_a, .int m_typed, .int m_place, .int m_isFault, .ref m_read_a, .ref m_heard_a, .ref m_undone_a, .int m_undos, .ref m_aside_a, .ref m_kept_a, .int m_keptUndos, .int m_isKept, .ref m_lanes_a, .ref m_sizes_a, .ref m_items_a, .ref m_moved_a])), (m_now_a, .inl (cI, 65, .inl m_now)), (m_heard_a, .inl (cI, 8, .inl m_heard)), (m_aside_a, .inl (cI, 65, .inl m_aside))] := hD
    refine lv_if_ne (tgt := 16) hx hb dX5_out_11 (by decide) (fun c6 => ?_) (fun c6 => ?_)
    · replace hM := sx_iff c6 hM
      refine lv_aload_n hx hb dX5_out_16 rfl (lv_at hl 0 rfl) ?_
      obtain ⟨w7, hc8, hM⟩ := sx_c1_s hM
      refine sx_vV (As := []) (rest := []) (wc := [(m_h, .inr (5, [.ref m_now_a, .ref m_tape_a, .int m_typed, .int m_place, .int m_isFault, .ref m_read_a, .ref m_heard_a, .ref m_undone_a, .int m_undos, .ref m_aside_a, .ref m_kept_a, .int m_keptUndos, .int m_isKept, .ref m_lanes_a, .ref m_sizes_a, .ref m_items_a, .ref m_moved_a])), (m_now_a, .inl (cI, 65, .inl m_now)), (m_aside_a, .inl (cI, 65, .inl m_aside))]) (wr := [(m_heard_a, .inl (cI, 8, .inl m_heard))]) (w1 := [(m_h, .inr (5, [.ref m_now_a, .ref m_tape_a, .int m_typed, .int m_place, .int m_isFault, .ref m_read_a, .ref m_heard_a, .ref m_undone_a, .int m_undos, .ref m_aside_a, .ref m_kept_a, .int m_keptUndos, .int m_isKept, .ref m_lanes_a, .ref m_sizes_a, .ref m_items_a, .ref m_moved_a])), (m_now_a, .inl (cI, 65, .inl m_now)), (m_aside_a, .inl (cI, 65, .inl w7))]) ⟨hx, hb, hml, hown, hts⟩ (mtX5_asides l D cI cJ cS H.size m_h m_now_a m_tape_a m_read_a m_heard_a m_undone_a m_aside_a m_kept_a m_lanes_a m_sizes_a m_items_a m_moved_a m_now m_typed m_place m_isFault m_undos m_aside m_keptUndos m_isKept F w7 hc8) (cwV 0 hts gX5_out_X5_asides rfl rfl rfl (by decide +kernel) ⟨Nat.le_trans (by decide) hRf, Nat.le_trans (by decide) hRl⟩) hK hN hP hD hS hA [0, 1, 3] [2] rfl (by decide) rfl (by decide) (by decide) rfl rfl rfl rfl hl.1 rfl (Nat.le_of_ble_eq_true rfl) dX5_out_17 hRc (fun H locs hP hD hS => ?_)
      have hP : va_P D vwCl [(m_heard_a, .inl (cI, 8, .inl m_heard)), (m_h, .inr (5, [.ref m_now_a, .ref m_tape_a, .int m_typed, .int m_place, .int m_isFault, .ref m_read_a, .ref m_heard_a, .ref m_undone_a, .int m_undos, .ref m_aside_a, .ref m_kept_a, .int m_keptUndos, .int m_isKept, .ref m_lanes_a, .ref m_sizes_a, .ref m_items_a, .ref m_moved_a])), (m_now_a, .inl (cI, 65, .inl m_now)), (m_aside_a, .inl (cI, 65, .inl w7))] H := hP
      have hD : va_D A [(m_heard_a, .inl (cI, 8, .inl m_heard)), (m_h, .inr (5, [.ref m_now_a, .ref m_tape_a, .int m_typed, .int m_place, .int m_isFault, .ref m_read_a, .ref m_heard_a, .ref m_undone_a, .int m_undos, .ref m_aside_a, .ref m_kept_a, .int m_keptUndos, .int m_isKept, .ref m_lanes_a, .ref m_sizes_a, .ref m_items_a, .ref m_moved_a])), (m_now_a, .inl (cI, 65, .inl m_now)), (m_aside_a, .inl (cI, 65, .inl w7))] := hD
      refine lv_iconst (v := 0) hx hb dX5_out_20 (by decide) ?_
      refine lv_istore_n (lv' := [(3, .int (0 : Int32)), (0, .ref m_h), (1, .int a1), (2, .int a2)]) hx hb dX5_out_21 rfl hl (by decide) rfl (fun ls hl => ?_)
      obtain ⟨k_47, ek_47, hM⟩ := sx_lt_s hM
      have hk_47 : ∀ (x9 : Int32) (z10 : Nat → Int32) (z11 : Nat → Int32) (H : Heap) (locs : List Loc) (ls : Array Slot), k_47 x9 z10 z11 = some (r0, w_m_now, w_m_heard, w_m_aside) → lv_has ls 4 [(0, .ref m_h), (3, .int x9)] → va_P D vwCl [(m_heard_a, .inl (cI, 8, .inl z11)), (m_h, .inr (5, [.ref m_now_a, .ref m_tape_a, .int m_typed, .int m_place, .int m_isFault, .ref m_read_a, .ref m_heard_a, .ref m_undone_a, .int m_undos, .ref m_aside_a, .ref m_kept_a, .int m_keptUndos, .int m_isKept, .ref m_lanes_a, .ref m_sizes_a, .ref m_items_a, .ref m_moved_a])), (m_now_a, .inl (cI, 65, .inl z10)), (m_aside_a, .inl (cI, 65, .inl w7))] H → va_D A [(m_heard_a, .inl (cI, 8, .inl z11)), (m_h, .inr (5, [.ref m_now_a, .ref m_tape_a, .int m_typed, .int m_place, .int m_isFault, .ref m_read_a, .ref m_heard_a, .ref m_undone_a, .int m_undos, .ref m_aside_a, .ref m_kept_a, .int m_keptUndos, .int m_isKept, .ref m_lanes_a, .ref m_sizes_a, .ref m_items_a, .ref m_moved_a])), (m_now_a, .inl (cI, 65, .inl z10)), (m_aside_a, .inl (cI, 65, .inl w7))] → va_S A H0 H locs → W p l e R s m args below meth c H locs cells slots Q (F0 m 47 ls ([])) := by
        intro x9 z10 z11 H locs ls hM hl hP hD hS
        rw [ek_47] at hM
        refine lv_aload_n hx hb dX5_out_47 rfl (lv_at hl 0 rfl) ?_
        obtain ⟨w12, hc13, hM⟩ := sx_c1_s hM
        refine sx_vV (As := []) (rest := []) (wc := [(m_h, .inr (5, [.ref m_now_a, .ref m_tape_a, .int m_typed, .int m_place, .int m_isFault, .ref m_read_a, .ref m_heard_a, .ref m_undone_a, .int m_undos, .ref m_aside_a, .ref m_kept_a, .int m_keptUndos, .int m_isKept, .ref m_lanes_a, .ref m_sizes_a, .ref m_items_a, .ref m_moved_a])), (m_now_a, .inl (cI, 65, .inl z10)), (m_aside_a, .inl (cI, 65, .inl w7))]) (wr := [(m_heard_a, .inl (cI, 8, .inl z11))]) (w1 := [(m_h, .inr (5, [.ref m_now_a, .ref m_tape_a, .int m_typed, .int m_place, .int m_isFault, .ref m_read_a, .ref m_heard_a, .ref m_undone_a, .int m_undos, .ref m_aside_a, .ref m_kept_a, .int m_keptUndos, .int m_isKept, .ref m_lanes_a, .ref m_sizes_a, .ref m_items_a, .ref m_moved_a])), (m_now_a, .inl (cI, 65, .inl w12)), (m_aside_a, .inl (cI, 65, .inl w7))]) ⟨hx, hb, hml, hown, hts⟩ (mtX5_backs l D cI cJ cS H.size m_h m_now_a m_tape_a m_read_a m_heard_a m_undone_a m_aside_a m_kept_a m_lanes_a m_sizes_a m_items_a m_moved_a z10 m_typed m_place m_isFault m_undos w7 m_keptUndos m_isKept F w12 hc13) (cwV 0 hts gX5_out_X5_backs rfl rfl rfl (by decide +kernel) ⟨Nat.le_trans (by decide) hRf, Nat.le_trans (by decide) hRl⟩) hK hN hP hD hS hA [1, 2, 3] [0] rfl (by decide) rfl (by decide) (by decide) rfl rfl rfl rfl hl.1 rfl (Nat.le_of_ble_eq_true rfl) dX5_out_48 hRc (fun H locs hP hD hS => ?_)
        have hP : va_P D vwCl [(m_heard_a, .inl (cI, 8, .inl z11)), (m_h, .inr (5, [.ref m_now_a, .ref m_tape_a, .int m_typed, .int m_place, .int m_isFault, .ref m_read_a, .ref m_heard_a, .ref m_undone_a, .int m_undos, .ref m_aside_a, .ref m_kept_a, .int m_keptUndos, .int m_isKept, .ref m_lanes_a, .ref m_sizes_a, .ref m_items_a, .ref m_moved_a])), (m_now_a, .inl (cI, 65, .inl w12)), (m_aside_a, .inl (cI, 65, .inl w7))] H := hP
        have hD : va_D A [(m_heard_a, .inl (cI, 8, .inl z11)), (m_h, .inr (5, [.ref m_now_a, .ref m_tape_a, .int m_typed, .int m_place, .int m_isFault, .ref m_read_a, .ref m_heard_a, .ref m_undone_a, .int m_undos, .ref m_aside_a, .ref m_kept_a, .int m_keptUndos, .int m_isKept, .ref m_lanes_a, .ref m_sizes_a, .ref m_items_a, .ref m_moved_a])), (m_now_a, .inl (cI, 65, .inl w12)), (m_aside_a, .inl (cI, 65, .inl w7))] := hD
        refine lv_iload_n hx hb dX5_out_51 rfl (lv_at hl 1 rfl) ?_
        refine lv_bipush (v := 60) hx hb dX5_out_52 (by decide) ?_
        refine lv_icmp_le (tgt := 62) hx hb dX5_out_54 (by decide) (fun c14 => ?_) (fun c14 => ?_)
        · replace hM := sx_ift c14 hM
          refine lv_iload_n hx hb dX5_out_62 rfl (lv_at hl 1 rfl) ?_
          obtain ⟨rfl, rfl, rfl, rfl⟩ := sx_o4 hM
          exact hret _ _ _ _ dX5_out_63 (hP.sub [1, 2, 0, 3] rfl) (hD.sub [1, 2, 0, 3] (by decide) rfl) hS
        · replace hM := sx_iff c14 hM
          refine lv_bipush (v := -4) hx hb dX5_out_57 (by decide) ?_
          refine lv_goto (tgt := 63) hx hb dX5_out_59 (by decide) ?_
          obtain ⟨rfl, rfl, rfl, rfl⟩ := sx_o4 hM
          exact hret _ _ _ _ dX5_out_63 (hP.sub [1, 2, 0, 3] rfl) (hD.sub [1, 2, 0, 3] (by decide) rfl) hS
      have lp_22 : ∀ (n : Nat) (x15 : Int32) (z16 : Nat → Int32) (z17 : Nat → Int32) (H : Heap) (locs : List Loc) (ls : Array Slot), sx_lp3 (bdX5_out_22 F a1 a2 k_47) n x15 z16 z17 = some (r0, w_m_now, w_m_heard, w_m_aside) → lv_has ls 4 [(0, .ref m_h), (1, .int a1), (2, .int a2), (3, .int x15)] → va_P D vwCl [(m_heard_a, .inl (cI, 8, .inl z17)), (m_h, .inr (5, [.ref m_now_a, .ref m_tape_a, .int m_typed, .int m_place, .int m_isFault, .ref m_read_a, .ref m_heard_a, .ref m_undone_a, .int m_undos, .ref m_aside_a, .ref m_kept_a, .int m_keptUndos, .int m_isKept, .ref m_lanes_a, .ref m_sizes_a, .ref m_items_a, .ref m_moved_a])), (m_now_a, .inl (cI, 65, .inl z16)), (m_aside_a, .inl (cI, 65, .inl w7))] H → va_D A [(m_heard_a, .inl (cI, 8, .inl z17)), (m_h, .inr (5, [.ref m_now_a, .ref m_tape_a, .int m_typed, .int m_place, .int m_isFault, .ref m_read_a, .ref m_heard_a, .ref m_undone_a, .int m_undos, .ref m_aside_a, .ref m_kept_a, .int m_keptUndos, .int m_isKept, .ref m_lanes_a, .ref m_sizes_a, .ref m_items_a, .ref m_moved_a])), (m_now_a, .inl (cI, 65, .inl z16)), (m_aside_a, .inl (cI, 65, .inl w7))] → va_S A H0 H locs → W p l e R s m args below meth c H locs cells slots Q (F0 m 22 ls ([])) := by
        intro n
        induction n with
        | zero => intro x15 z16 z17 H locs ls hM; exact (sx_lp3_0 hM).elim
        | succ n ih =>
          intro x15 z16 z17 H locs ls hM hl hP hD hS
          have hM : bdX5_out_22 F a1 a2 k_47 (sx_lp3 (bdX5_out_22 F a1 a2 k_47) n) x15 z16 z17 = some (r0, w_m_now, w_m_heard, w_m_aside) := hM
          generalize sx_lp3 (bdX5_out_22 F a1 a2 k_47) n = r_22 at hM ih
          unfold bdX5_out_22 at hM
          refine lv_iload_n hx hb dX5_out_22 rfl (lv_at hl 3 rfl) ?_
          refine lv_bipush (v := 61) hx hb dX5_out_23 (by decide) ?_
          refine lv_icmp_ge (tgt := 47) hx hb dX5_out_25 (by decide) (fun c18 => ?_) (fun c18 => ?_)
          · replace hM := sx_ift c18 hM
            exact hk_47 x15 z16 z17 _ _ _ hM (lv_sub hl [0, 3] rfl) (hP.sub [0, 1, 2, 3] rfl) (hD.sub [0, 1, 2, 3] (by decide) rfl) hS
          · replace hM := sx_iff c18 hM
            refine lv_aload_n hx hb dX5_out_28 rfl (lv_at hl 0 rfl) ?_
            refine lv_iload_n hx hb dX5_out_29 rfl (lv_at hl 1 rfl) ?_
            obtain ⟨r19, hc20, hM⟩ := sx_c1_s hM
            refine sx_iV (As := [.int a1]) (rest := []) (wc := [(m_h, .inr (5, [.ref m_now_a, .ref m_tape_a, .int m_typed, .int m_place, .int m_isFault, .ref m_read_a, .ref m_heard_a, .ref m_undone_a, .int m_undos, .ref m_aside_a, .ref m_kept_a, .int m_keptUndos, .int m_isKept, .ref m_lanes_a, .ref m_sizes_a, .ref m_items_a, .ref m_moved_a])), (m_now_a, .inl (cI, 65, .inl z16))]) (wr := [(m_heard_a, .inl (cI, 8, .inl z17)), (m_aside_a, .inl (cI, 65, .inl w7))]) (w1 := [(m_h, .inr (5, [.ref m_now_a, .ref m_tape_a, .int m_typed, .int m_place, .int m_isFault, .ref m_read_a, .ref m_heard_a, .ref m_undone_a, .int m_undos, .ref m_aside_a, .ref m_kept_a, .int m_keptUndos, .int m_isKept, .ref m_lanes_a, .ref m_sizes_a, .ref m_items_a, .ref m_moved_a])), (m_now_a, .inl (cI, 65, .inl z16))]) ⟨hx, hb, hml, hown, hts⟩ (mtX5_isOut l D cI cJ cS H.size m_h m_now_a m_tape_a m_read_a m_heard_a m_undone_a m_aside_a m_kept_a m_lanes_a m_sizes_a m_items_a m_moved_a z16 m_typed m_place m_isFault m_undos m_keptUndos m_isKept a1 F r19 hc20) (cwV 1 hts gX5_out_X5_isOut rfl rfl rfl (by decide +kernel) ⟨Nat.le_trans (by decide) hRf, Nat.le_trans (by decide) hRl⟩) hK hN hP hD hS hA [1, 2] [0, 3] rfl (by decide) rfl (by decide) (by decide) rfl rfl rfl rfl hl.1 rfl (Nat.le_of_ble_eq_true rfl) dX5_out_30 hRc (fun H locs hP hD hS => ?_)
            have hP : va_P D vwCl [(m_heard_a, .inl (cI, 8, .inl z17)), (m_aside_a, .inl (cI, 65, .inl w7)), (m_h, .inr (5, [.ref m_now_a, .ref m_tape_a, .int m_typed, .int m_place, .int m_isFault, .ref m_read_a, .ref m_heard_a, .ref m_undone_a, .int m_undos, .ref m_aside_a, .ref m_kept_a, .int m_keptUndos, .int m_isKept, .ref m_lanes_a, .ref m_sizes_a, .ref m_items_a, .ref m_moved_a])), (m_now_a, .inl (cI, 65, .inl z16))] H := hP
            have hD : va_D A [(m_heard_a, .inl (cI, 8, .inl z17)), (m_aside_a, .inl (cI, 65, .inl w7)), (m_h, .inr (5, [.ref m_now_a, .ref m_tape_a, .int m_typed, .int m_place, .int m_isFault, .ref m_read_a, .ref m_heard_a, .ref m_undone_a, .int m_undos, .ref m_aside_a, .ref m_kept_a, .int m_keptUndos, .int m_isKept, .ref m_lanes_a, .ref m_sizes_a, .ref m_items_a, .ref m_moved_a])), (m_now_a, .inl (cI, 65, .inl z16))] := hD
            refine lv_if_ne (tgt := 47) hx hb dX5_out_33 (by decide) (fun c21 => ?_) (fun c21 => ?_)
            · replace hM := sx_iff c21 hM
              exact hk_47 x15 z16 z17 _ _ _ hM (lv_sub hl [0, 3] rfl) (hP.sub [0, 2, 3, 1] rfl) (hD.sub [0, 2, 3, 1] (by decide) rfl) hS
            · replace hM := sx_ift c21 hM
              refine lv_aload_n hx hb dX5_out_36 rfl (lv_at hl 0 rfl) ?_
              refine lv_iload_n hx hb dX5_out_37 rfl (lv_at hl 2 rfl) ?_
              obtain ⟨w22, w23, hc24, hM⟩ := sx_c2_s hM
              refine sx_vV (As := [.int a2]) (rest := []) (wc := [(m_h, .inr (5, [.ref m_now_a, .ref m_tape_a, .int m_typed, .int m_place, .int m_isFault, .ref m_read_a, .ref m_heard_a, .ref m_undone_a, .int m_undos, .ref m_aside_a, .ref m_kept_a, .int m_keptUndos, .int m_isKept, .ref m_lanes_a, .ref m_sizes_a, .ref m_items_a, .ref m_moved_a])), (m_now_a, .inl (cI, 65, .inl z16)), (m_heard_a, .inl (cI, 8, .inl z17))]) (wr := [(m_aside_a, .inl (cI, 65, .inl w7))]) (w1 := [(m_h, .inr (5, [.ref m_now_a, .ref m_tape_a, .int m_typed, .int m_place, .int m_isFault, .ref m_read_a, .ref m_heard_a, .ref m_undone_a, .int m_undos, .ref m_aside_a, .ref m_kept_a, .int m_keptUndos, .int m_isKept, .ref m_lanes_a, .ref m_sizes_a, .ref m_items_a, .ref m_moved_a])), (m_now_a, .inl (cI, 65, .inl w22)), (m_heard_a, .inl (cI, 8, .inl w23))]) ⟨hx, hb, hml, hown, hts⟩ (mtX5_goesBy l D cI cJ cS H.size m_h m_now_a m_tape_a m_read_a m_heard_a m_undone_a m_aside_a m_kept_a m_lanes_a m_sizes_a m_items_a m_moved_a z16 m_typed m_place m_isFault z17 m_undos m_keptUndos m_isKept a2 F w22 w23 hc24) (cwV 1 hts gX5_out_X5_goesBy rfl rfl rfl (by decide +kernel) ⟨Nat.le_trans (by decide) hRf, Nat.le_trans (by decide) hRl⟩) hK hN hP hD hS hA [2, 3, 0] [1] rfl (by decide) rfl (by decide) (by decide) rfl rfl rfl rfl hl.1 rfl (Nat.le_of_ble_eq_true rfl) dX5_out_38 hRc (fun H locs hP hD hS => ?_)
              have hP : va_P D vwCl [(m_aside_a, .inl (cI, 65, .inl w7)), (m_h, .inr (5, [.ref m_now_a, .ref m_tape_a, .int m_typed, .int m_place, .int m_isFault, .ref m_read_a, .ref m_heard_a, .ref m_undone_a, .int m_undos, .ref m_aside_a, .ref m_kept_a, .int m_keptUndos, .int m_isKept, .ref m_lanes_a, .ref m_sizes_a, .ref m_items_a, .ref m_moved_a])), (m_now_a, .inl (cI, 65, .inl w22)), (m_heard_a, .inl (cI, 8, .inl w23))] H := hP
              have hD : va_D A [(m_aside_a, .inl (cI, 65, .inl w7)), (m_h, .inr (5, [.ref m_now_a, .ref m_tape_a, .int m_typed, .int m_place, .int m_isFault, .ref m_read_a, .ref m_heard_a, .ref m_undone_a, .int m_undos, .ref m_aside_a, .ref m_kept_a, .int m_keptUndos, .int m_isKept, .ref m_lanes_a, .ref m_sizes_a, .ref m_items_a, .ref m_moved_a])), (m_now_a, .inl (cI, 65, .inl w22)), (m_heard_a, .inl (cI, 8, .inl w23))] := hD
              obtain ⟨v25, ev25, hM⟩ := sx_nm_s hM
              refine lv_iinc (v := v25) (lv' := [(3, .int v25), (0, .ref m_h), (1, .int a1), (2, .int a2)]) hx hb dX5_out_41 hl (k := 3) rfl (by rw [ev25]; rfl) (by decide) rfl (fun ls hl => ?_)
              refine lv_goto (tgt := 22) hx hb dX5_out_44 (by decide) ?_
              exact ih v25 w22 w23 _ _ _ hM (lv_sub hl [1, 2, 3, 0] rfl) (hP.sub [3, 1, 2, 0] rfl) (hD.sub [3, 1, 2, 0] (by decide) rfl) hS
      exact lp_22 F (0 : Int32) m_now m_heard _ _ _ hM (lv_sub hl [1, 2, 3, 0] rfl) (hP.sub [0, 1, 2, 3] rfl) (hD.sub [0, 1, 2, 3] (by decide) rfl) hS
    · replace hM := sx_ift c6 hM
      refine lv_iconst (v := -1) hx hb dX5_out_14 (by decide) ?_
      obtain ⟨rfl, rfl, rfl, rfl⟩ := sx_o4 hM
      exact hret _ _ _ _ dX5_out_15 (hP.sub [0, 1, 2, 3] rfl) (hD.sub [0, 1, 2, 3] (by decide) rfl) hS
set_option maxHeartbeats 4000000 in
set_option maxRecDepth 100000 in
theorem mtX5_out (l : Launch) (D : va_G) (cI cJ cS : ClassId) (sz : Nat) (m_h m_now_a m_tape_a m_read_a m_heard_a m_undone_a m_aside_a m_kept_a m_lanes_a m_sizes_a m_items_a m_moved_a : Nat) (m_now : Nat → Int32) (m_typed : Int32) (m_place : Int32) (m_isFault : Int32) (m_heard : Nat → Int32) (m_undos : Int32) (m_aside : Nat → Int32) (m_keptUndos : Int32) (m_isKept : Int32) (a1 : Int32) (a2 : Int32) (F : Nat) (r0 : Int32) (w_m_now : Nat → Int32) (w_m_heard : Nat → Int32) (w_m_aside : Nat → Int32) (hM : fnX5_out F m_now m_heard m_aside a1 a2 = some (r0, w_m_now, w_m_heard, w_m_aside)) : sx_MI l yX5_out wsX5_out ({ frames := 4, cells := 0, slots := 0, locals := 88 }) D (sx_T cI cJ cS) sz [.ref m_h, .int a1, .int a2] [(m_h, .inr (5, [.ref m_now_a, .ref m_tape_a, .int m_typed, .int m_place, .int m_isFault, .ref m_read_a, .ref m_heard_a, .ref m_undone_a, .int m_undos, .ref m_aside_a, .ref m_kept_a, .int m_keptUndos, .int m_isKept, .ref m_lanes_a, .ref m_sizes_a, .ref m_items_a, .ref m_moved_a])), (m_now_a, .inl (cI, 65, .inl m_now)), (m_heard_a, .inl (cI, 8, .inl m_heard)), (m_aside_a, .inl (cI, 65, .inl m_aside))] r0 [(m_h, .inr (5, [.ref m_now_a, .ref m_tape_a, .int m_typed, .int m_place, .int m_isFault, .ref m_read_a, .ref m_heard_a, .ref m_undone_a, .int m_undos, .ref m_aside_a, .ref m_kept_a, .int m_keptUndos, .int m_isKept, .ref m_lanes_a, .ref m_sizes_a, .ref m_items_a, .ref m_moved_a])), (m_now_a, .inl (cI, 65, .inl w_m_now)), (m_heard_a, .inl (cI, 8, .inl w_m_heard)), (m_aside_a, .inl (cI, 65, .inl w_m_aside))] := by
  refine Met.ofW (cc := cX5_out) (maxL := 4) (ret := (some .int)) (by decide) rfl ?_
  intro p e s m args below meth c s₁ B hml hv
  obtain ⟨rfl, hsz, hN, hP, hK, hD0⟩ := hv
  subst hsz
  have hl := lv_entry ([.ref m_h, .int a1, .int a2]) (n := 4) (Nat.le_of_ble_eq_true rfl)
  rw [lg_entry_eq]
  generalize (lg_sl ([.ref m_h, .int a1, .int a2]) ++ List.replicate (4 - (lg_sl ([.ref m_h, .int a1, .int a2])).length) Slot.unset).toArray = ls at hl ⊢
  exact kwX5_out B.exec B.bytes hml (findClass_of_methodNamed B.named) (atoms_spec (ws := wsX5_out) B.pre) hN hK (fun q h => Or.inr h) (by decide) (by decide) ⟨Nat.zero_le _, Nat.zero_le _⟩ m_h m_now_a m_tape_a m_read_a m_heard_a m_undone_a m_aside_a m_kept_a m_lanes_a m_sizes_a m_items_a m_moved_a m_now m_typed m_place m_isFault m_heard m_undos m_aside m_keptUndos m_isKept a1 a2 F r0 w_m_now w_m_heard w_m_aside hM _ _ _ hl hP hD0.self va_S.rf (fun H1 locs1 ls1 pc1 hd hP hD hS => W.iret (v := r0) B.exec B.bytes B.returns (fun t ht hW => ⟨⟨r0, (), rfl, rfl, by rw [ht]; exact hP, hD⟩, hS.F ht⟩) hS.2.2 hd)

def bdX5_cool_21 (F : Nat) (x1_ : Int32) (m_aside : Nat → Int32) (r_ : Int32 → (Nat → Int32) → (Nat → Int32) → Option (Int32 × (Nat → Int32) × (Nat → Int32) × (Nat → Int32))) (x2_ : Int32) (m_now : Nat → Int32) (m_heard : Nat → Int32) : Option (Int32 × (Nat → Int32) × (Nat → Int32) × (Nat → Int32)) :=
  (if x2_ < 0 then (some ((-4 : Int32), m_now, m_heard, m_aside)) else sx_c3 (fnX5_leaksIn F m_now m_heard m_aside x1_ x2_) (fun (r10 : Int32) (w11 : Nat → Int32) (w12 : Nat → Int32) => (if r10 = 0 then (some (x2_, w11, w12, m_aside)) else sx_nm (x2_ + (-1 : Int32)) (fun (v15 : Int32) => (r_ v15 w11 w12)))))
def fnX5_cool (F : Nat) (m_now : Nat → Int32) (m_heard : Nat → Int32) (m_aside : Nat → Int32) (a1 : Int32) : Option (Int32 × (Nat → Int32) × (Nat → Int32) × (Nat → Int32)) :=
  sx_c1 (fnX5_in F (a1).toInt64 (1 : Int64) (30 : Int64)) (fun (r1 : Int32) => (if r1 = 0 then (some ((-1 : Int32), m_now, m_heard, m_aside)) else sx_c1 (fnX5_asides F m_now m_aside) (fun (w4 : Nat → Int32) => sx_lp3 (bdX5_cool_21 F a1 w4) F (9 : Int32) m_now m_heard)))
set_option maxHeartbeats 4000000 in
set_option maxRecDepth 100000 in
theorem kwX5_cool {p : Program} {l : Launch} {e : Env} {R : Room} {s : State} {m : MethodId} {args : Array Value} {below : List Frame} {meth : Method} {c : Code} {cells slots : Nat} {Q : State → Prop} {A : Nat → Prop} {H0 : Heap} {D : va_G} {cI cJ cS : ClassId} (hx : p.tables.exec = Jvm.exec) (hb : c.code = cX5_cool) (hml : c.maxLocals = 3) (hown : s.vm.findClass RX5 = some m.cls) (hts : ∀ w ∈ wsX5_cool, w.before args s = true) (hN : sx_N s) (hK : va_K D vwCl (sx_T cI cJ cS) s) (hA : ∀ q, H0.size ≤ q → A q) (hRf : 5 ≤ R.frames) (hRl : 116 ≤ R.locals) (hRc : cells ≤ R.cells ∧ slots ≤ R.slots) (m_h m_now_a m_tape_a m_read_a m_heard_a m_undone_a m_aside_a m_kept_a m_lanes_a m_sizes_a m_items_a m_moved_a : Nat) (m_now : Nat → Int32) (m_typed : Int32) (m_place : Int32) (m_isFault : Int32) (m_heard : Nat → Int32) (m_undos : Int32) (m_aside : Nat → Int32) (m_keptUndos : Int32) (m_isKept : Int32) (a1 : Int32) (F : Nat) (r0 : Int32) (w_m_now : Nat → Int32) (w_m_heard : Nat → Int32) (w_m_aside : Nat → Int32) (hM : fnX5_cool F m_now m_heard m_aside a1 = some (r0, w_m_now, w_m_heard, w_m_aside)) (H : Heap) (locs : List Loc) (ls : Array Slot) (hl : lv_has ls 3 [(0, .ref m_h), (1, .int a1)]) (hP : va_P D vwCl [(m_h, .inr (5, [.ref m_now_a, .ref m_tape_a, .int m_typed, .int m_place, .int m_isFault, .ref m_read_a, .ref m_heard_a, .ref m_undone_a, .int m_undos, .ref m_aside_a, .ref m_kept_a, .int m_keptUndos, .int m_isKept, .ref m_lanes_a, .ref m_sizes_a, .ref m_items_a, .ref m_moved_a])), (m_now_a, .inl (cI, 65, .inl m_now)), (m_heard_a, .inl (cI, 8, .inl m_heard)), (m_aside_a, .inl (cI, 65, .inl m_aside))] H) (hD : va_D A [(m_h, .inr (5, [.ref m_now_a, .ref m_tape_a, .int m_typed, .int m_place, .int m_isFault, .ref m_read_a, .ref m_heard_a, .ref m_undone_a, .int m_undos, .ref m_aside_a, .ref m_kept_a, .int m_keptUndos, .int m_isKept, .ref m_lanes_a, .ref m_sizes_a, .ref m_items_a, .ref m_moved_a])), (m_now_a, .inl (cI, 65, .inl m_now)), (m_heard_a, .inl (cI, 8, .inl m_heard)), (m_aside_a, .inl (cI, 65, .inl m_aside))]) (hS : va_S A H0 H locs)
    (hret : ∀ (H1 : Heap) (locs1 : List Loc) (ls1 : Array Slot) (pc1 : Nat), decode cX5_cool pc1 = .ok (.ireturn, 1) → va_P D vwCl [(m_h, .inr (5, [.ref m_now_a, .ref m_tape_a, .int m_typed, .int m_place, .int m_isFault, .ref m_read_a, .ref m_heard_a, .ref m_undone_a, .int m_undos, .ref m_aside_a, .ref m_kept_a, .int m_keptUndos, .int m_isKept, .ref m_lanes_a, .ref m_sizes_a, .ref m_items_a, .ref m_moved_a])), (m_now_a, .inl (cI, 65, .inl w_m_now)), (m_heard_a, .inl (cI, 8, .inl w_m_heard)), (m_aside_a, .inl (cI, 65, .inl w_m_aside))] H1 → va_D A [(m_h, .inr (5, [.ref m_now_a, .ref m_tape_a, .int m_typed, .int m_place, .int m_isFault, .ref m_read_a, .ref m_heard_a, .ref m_undone_a, .int m_undos, .ref m_aside_a, .ref m_kept_a, .int m_keptUndos, .int m_isKept, .ref m_lanes_a, .ref m_sizes_a, .ref m_items_a, .ref m_moved_a])), (m_now_a, .inl (cI, 65, .inl w_m_now)), (m_heard_a, .inl (cI, 8, .inl w_m_heard)), (m_aside_a, .inl (cI, 65, .inl w_m_aside))] → va_S A H0 H1 locs1 → W p l e R s m args below meth c H1 locs1 cells slots Q (F0 m pc1 ls1 [.int r0])) : W p l e R s m args below meth c H locs cells slots Q (F0 m 0 ls []) := by
  unfold fnX5_cool at hM
  refine lv_iload_n hx hb dX5_cool_0 rfl (lv_at hl 1 rfl) ?_
  refine lv_i2l hx hb dX5_cool_1 rfl ?_
  refine lv_lconst (v := 1) hx hb dX5_cool_2 (by decide) ?_
  refine lv_ldc2 (v := 30) hx hb hown (hts (.constantLong RX5 101 (30)) (by decide +kernel)) dX5_cool_3 ?_
  obtain ⟨r1, hc2, hM⟩ := sx_c1_s hM
  refine sx_iS (As := [.long (a1).toInt64, .long (1 : Int64), .long (30 : Int64)]) (rest := []) (wc := []) (wr := [(m_h, .inr (5, [.ref m_now_a, .ref m_tape_a, .int m_typed, .int m_place, .int m_isFault, .ref m_read_a, .ref m_heard_a, .ref m_undone_a, .int m_undos, .ref m_aside_a, .ref m_kept_a, .int m_keptUndos, .int m_isKept, .ref m_lanes_a, .ref m_sizes_a, .ref m_items_a, .ref m_moved_a])), (m_now_a, .inl (cI, 65, .inl m_now)), (m_heard_a, .inl (cI, 8, .inl m_heard)), (m_aside_a, .inl (cI, 65, .inl m_aside))]) (w1 := []) ⟨hx, hb, hml, hown, hts⟩ (mtX5_in l D cI cJ cS H.size (a1).toInt64 (1 : Int64) (30 : Int64) F r1 hc2) (va_cwS 3 hts gX5_cool_X5_in rfl rfl rfl (by decide +kernel) ⟨Nat.le_trans (by decide) hRf, Nat.le_trans (by decide) hRl⟩) hK hN hP hD hS hA [] [0, 1, 2, 3] rfl (by decide) rfl (by decide) (by decide) rfl hl.1 rfl (Nat.le_of_ble_eq_true rfl) dX5_cool_6 hRc (fun H locs hP hD hS => ?_)
  have hP : va_P D vwCl [(m_h, .inr (5, [.ref m_now_a, .ref m_tape_a, .int m_typed, .int m_place, .int m_isFault, .ref m_read_a, .ref m_heard_a, .ref m_undone_a, .int m_undos, .ref m_aside_a, .ref m_kept_a, .int m_keptUndos, .int m_isKept, .ref m_lanes_a, .ref m_sizes_a, .ref m_items_a, .ref m_moved_a])), (m_now_a, .inl (cI, 65, .inl m_now)), (m_heard_a, .inl (cI, 8, .inl m_heard)), (m_aside_a, .inl (cI, 65, .inl m_aside))] H := hP
  have hD : va_D A [(m_h, .inr (5, [.ref m_now_a, .ref m_tape_a, .int m_typed, .int m_place, .int m_isFault, .ref m_read_a, .ref m_heard_a, .ref m_undone_a, .int m_undos, .ref m_aside_a, .ref m_kept_a, .int m_keptUndos, .int m_isKept, .ref m_lanes_a, .ref m_sizes_a, .ref m_items_a, .ref m_moved_a])), (m_now_a, .inl (cI, 65, .inl m_now)), (m_heard_a, .inl (cI, 8, .inl m_heard)), (m_aside_a, .inl (cI, 65, .inl m_aside))] := hD
  refine lv_if_ne (tgt := 14) hx hb dX5_cool_9 (by decide) (fun c3 => ?_) (fun c3 => ?_)
  · replace hM := sx_iff c3 hM
    refine lv_aload_n hx hb dX5_cool_14 rfl (lv_at hl 0 rfl) ?_
    obtain ⟨w4, hc5, hM⟩ := sx_c1_s hM
    refine sx_vV (As := []) (rest := []) (wc := [(m_h, .inr (5, [.ref m_now_a, .ref m_tape_a, .int m_typed, .int m_place, .int m_isFault, .ref m_read_a, .ref m_heard_a, .ref m_undone_a, .int m_undos, .ref m_aside_a, .ref m_kept_a, .int m_keptUndos, .int m_isKept, .ref m_lanes_a, .ref m_sizes_a, .ref m_items_a, .ref m_moved_a])), (m_now_a, .inl (cI, 65, .inl m_now)), (m_aside_a, .inl (cI, 65, .inl m_aside))]) (wr := [(m_heard_a, .inl (cI, 8, .inl m_heard))]) (w1 := [(m_h, .inr (5, [.ref m_now_a, .ref m_tape_a, .int m_typed, .int m_place, .int m_isFault, .ref m_read_a, .ref m_heard_a, .ref m_undone_a, .int m_undos, .ref m_aside_a, .ref m_kept_a, .int m_keptUndos, .int m_isKept, .ref m_lanes_a, .ref m_sizes_a, .ref m_items_a, .ref m_moved_a])), (m_now_a, .inl (cI, 65, .inl m_now)), (m_aside_a, .inl (cI, 65, .inl w4))]) ⟨hx, hb, hml, hown, hts⟩ (mtX5_asides l D cI cJ cS H.size m_h m_now_a m_tape_a m_read_a m_heard_a m_undone_a m_aside_a m_kept_a m_lanes_a m_sizes_a m_items_a m_moved_a m_now m_typed m_place m_isFault m_undos m_aside m_keptUndos m_isKept F w4 hc5) (cwV 0 hts gX5_cool_X5_asides rfl rfl rfl (by decide +kernel) ⟨Nat.le_trans (by decide) hRf, Nat.le_trans (by decide) hRl⟩) hK hN hP hD hS hA [0, 1, 3] [2] rfl (by decide) rfl (by decide) (by decide) rfl rfl rfl rfl hl.1 rfl (Nat.le_of_ble_eq_true rfl) dX5_cool_15 hRc (fun H locs hP hD hS => ?_)
    have hP : va_P D vwCl [(m_heard_a, .inl (cI, 8, .inl m_heard)), (m_h, .inr (5, [.ref m_now_a, .ref m_tape_a, .int m_typed, .int m_place, .int m_isFault, .ref m_read_a, .ref m_heard_a, .ref m_undone_a, .int m_undos, .ref m_aside_a, .ref m_kept_a, .int m_keptUndos, .int m_isKept, .ref m_lanes_a, .ref m_sizes_a, .ref m_items_a, .ref m_moved_a])), (m_now_a, .inl (cI, 65, .inl m_now)), (m_aside_a, .inl (cI, 65, .inl w4))] H := hP
    have hD : va_D A [(m_heard_a, .inl (cI, 8, .inl m_heard)), (m_h, .inr (5, [.ref m_now_a, .ref m_tape_a, .int m_typed, .int m_place, .int m_isFault, .ref m_read_a, .ref m_heard_a, .ref m_undone_a, .int m_undos, .ref m_aside_a, .ref m_kept_a, .int m_keptUndos, .int m_isKept, .ref m_lanes_a, .ref m_sizes_a, .ref m_items_a, .ref m_moved_a])), (m_now_a, .inl (cI, 65, .inl m_now)), (m_aside_a, .inl (cI, 65, .inl w4))] := hD
    refine lv_bipush (v := 9) hx hb dX5_cool_18 (by decide) ?_
    refine lv_istore_n (lv' := [(2, .int (9 : Int32)), (0, .ref m_h), (1, .int a1)]) hx hb dX5_cool_20 rfl hl (by decide) rfl (fun ls hl => ?_)
    have lp_21 : ∀ (n : Nat) (x6 : Int32) (z7 : Nat → Int32) (z8 : Nat → Int32) (H : Heap) (locs : List Loc) (ls : Array Slot), sx_lp3 (bdX5_cool_21 F a1 w4) n x6 z7 z8 = some (r0, w_m_now, w_m_heard, w_m_aside) → lv_has ls 3 [(0, .ref m_h), (1, .int a1), (2, .int x6)] → va_P D vwCl [(m_heard_a, .inl (cI, 8, .inl z8)), (m_h, .inr (5, [.ref m_now_a, .ref m_tape_a, .int m_typed, .int m_place, .int m_isFault, .ref m_read_a, .ref m_heard_a, .ref m_undone_a, .int m_undos, .ref m_aside_a, .ref m_kept_a, .int m_keptUndos, .int m_isKept, .ref m_lanes_a, .ref m_sizes_a, .ref m_items_a, .ref m_moved_a])), (m_now_a, .inl (cI, 65, .inl z7)), (m_aside_a, .inl (cI, 65, .inl w4))] H → va_D A [(m_heard_a, .inl (cI, 8, .inl z8)), (m_h, .inr (5, [.ref m_now_a, .ref m_tape_a, .int m_typed, .int m_place, .int m_isFault, .ref m_read_a, .ref m_heard_a, .ref m_undone_a, .int m_undos, .ref m_aside_a, .ref m_kept_a, .int m_keptUndos, .int m_isKept, .ref m_lanes_a, .ref m_sizes_a, .ref m_items_a, .ref m_moved_a])), (m_now_a, .inl (cI, 65, .inl z7)), (m_aside_a, .inl (cI, 65, .inl w4))] → va_S A H0 H locs → W p l e R s m args below meth c H locs cells slots Q (F0 m 21 ls ([])) := by
      intro n
      induction n with
      | zero => intro x6 z7 z8 H locs ls hM; exact (sx_lp3_0 hM).elim
      | succ n ih =>
        intro x6 z7 z8 H locs ls hM hl hP hD hS
        have hM : bdX5_cool_21 F a1 w4 (sx_lp3 (bdX5_cool_21 F a1 w4) n) x6 z7 z8 = some (r0, w_m_now, w_m_heard, w_m_aside) := hM
        generalize sx_lp3 (bdX5_cool_21 F a1 w4) n = r_21 at hM ih
        unfold bdX5_cool_21 at hM
        refine lv_iload_n hx hb dX5_cool_21 rfl (lv_at hl 2 rfl) ?_
        refine lv_if_lt (tgt := 42) hx hb dX5_cool_22 (by decide) (fun c9 => ?_) (fun c9 => ?_)
        · replace hM := sx_ift c9 hM
          refine lv_bipush (v := -4) hx hb dX5_cool_42 (by decide) ?_
          obtain ⟨rfl, rfl, rfl, rfl⟩ := sx_o4 hM
          exact hret _ _ _ _ dX5_cool_44 (hP.sub [1, 2, 0, 3] rfl) (hD.sub [1, 2, 0, 3] (by decide) rfl) hS
        · replace hM := sx_iff c9 hM
          refine lv_aload_n hx hb dX5_cool_25 rfl (lv_at hl 0 rfl) ?_
          refine lv_iload_n hx hb dX5_cool_26 rfl (lv_at hl 1 rfl) ?_
          refine lv_iload_n hx hb dX5_cool_27 rfl (lv_at hl 2 rfl) ?_
          obtain ⟨r10, w11, w12, hc13, hM⟩ := sx_c3_s hM
          refine sx_iV (As := [.int a1, .int x6]) (rest := []) (wc := [(m_h, .inr (5, [.ref m_now_a, .ref m_tape_a, .int m_typed, .int m_place, .int m_isFault, .ref m_read_a, .ref m_heard_a, .ref m_undone_a, .int m_undos, .ref m_aside_a, .ref m_kept_a, .int m_keptUndos, .int m_isKept, .ref m_lanes_a, .ref m_sizes_a, .ref m_items_a, .ref m_moved_a])), (m_now_a, .inl (cI, 65, .inl z7)), (m_heard_a, .inl (cI, 8, .inl z8)), (m_aside_a, .inl (cI, 65, .inl w4))]) (wr := []) (w1 := [(m_h, .inr (5, [.ref m_now_a, .ref m_tape_a, .int m_typed, .int m_place, .int m_isFault, .ref m_read_a, .ref m_heard_a, .ref m_undone_a, .int m_undos, .ref m_aside_a, .ref m_kept_a, .int m_keptUndos, .int m_isKept, .ref m_lanes_a, .ref m_sizes_a, .ref m_items_a, .ref m_moved_a])), (m_now_a, .inl (cI, 65, .inl w11)), (m_heard_a, .inl (cI, 8, .inl w12)), (m_aside_a, .inl (cI, 65, .inl w4))]) ⟨hx, hb, hml, hown, hts⟩ (mtX5_leaksIn l D cI cJ cS H.size m_h m_now_a m_tape_a m_read_a m_heard_a m_undone_a m_aside_a m_kept_a m_lanes_a m_sizes_a m_items_a m_moved_a z7 m_typed m_place m_isFault z8 m_undos w4 m_keptUndos m_isKept a1 x6 F r10 w11 w12 hc13) (cwV 2 hts gX5_cool_X5_leaksIn rfl rfl rfl (by decide +kernel) ⟨Nat.le_trans (by decide) hRf, Nat.le_trans (by decide) hRl⟩) hK hN hP hD hS hA [1, 2, 0, 3] [] rfl (by decide) rfl (by decide) (by decide) rfl rfl rfl rfl hl.1 rfl (Nat.le_of_ble_eq_true rfl) dX5_cool_28 hRc (fun H locs hP hD hS => ?_)
          have hP : va_P D vwCl [(m_h, .inr (5, [.ref m_now_a, .ref m_tape_a, .int m_typed, .int m_place, .int m_isFault, .ref m_read_a, .ref m_heard_a, .ref m_undone_a, .int m_undos, .ref m_aside_a, .ref m_kept_a, .int m_keptUndos, .int m_isKept, .ref m_lanes_a, .ref m_sizes_a, .ref m_items_a, .ref m_moved_a])), (m_now_a, .inl (cI, 65, .inl w11)), (m_heard_a, .inl (cI, 8, .inl w12)), (m_aside_a, .inl (cI, 65, .inl w4))] H := hP
          have hD : va_D A [(m_h, .inr (5, [.ref m_now_a, .ref m_tape_a, .int m_typed, .int m_place, .int m_isFault, .ref m_read_a, .ref m_heard_a, .ref m_undone_a, .int m_undos, .ref m_aside_a, .ref m_kept_a, .int m_keptUndos, .int m_isKept, .ref m_lanes_a, .ref m_sizes_a, .ref m_items_a, .ref m_moved_a])), (m_now_a, .inl (cI, 65, .inl w11)), (m_heard_a, .inl (cI, 8, .inl w12)), (m_aside_a, .inl (cI, 65, .inl w4))] := hD
          refine lv_if_ne (tgt := 36) hx hb dX5_cool_31 (by decide) (fun c14 => ?_) (fun c14 => ?_)
          · replace hM := sx_iff c14 hM
            obtain ⟨v15, ev15, hM⟩ := sx_nm_s hM
            refine lv_iinc (v := v15) (lv' := [(2, .int v15), (0, .ref m_h), (1, .int a1)]) hx hb dX5_cool_36 hl (k := 2) rfl (by rw [ev15]; rfl) (by decide) rfl (fun ls hl => ?_)
            refine lv_goto (tgt := 21) hx hb dX5_cool_39 (by decide) ?_
            exact ih v15 w11 w12 _ _ _ hM (lv_sub hl [1, 2, 0] rfl) (hP.sub [2, 0, 1, 3] rfl) (hD.sub [2, 0, 1, 3] (by decide) rfl) hS
          · replace hM := sx_ift c14 hM
            refine lv_iload_n hx hb dX5_cool_34 rfl (lv_at hl 2 rfl) ?_
            obtain ⟨rfl, rfl, rfl, rfl⟩ := sx_o4 hM
            exact hret _ _ _ _ dX5_cool_35 (hP.sub [0, 1, 2, 3] rfl) (hD.sub [0, 1, 2, 3] (by decide) rfl) hS
    exact lp_21 F (9 : Int32) m_now m_heard _ _ _ hM (lv_sub hl [1, 2, 0] rfl) (hP.sub [0, 1, 2, 3] rfl) (hD.sub [0, 1, 2, 3] (by decide) rfl) hS
  · replace hM := sx_ift c3 hM
    refine lv_iconst (v := -1) hx hb dX5_cool_12 (by decide) ?_
    obtain ⟨rfl, rfl, rfl, rfl⟩ := sx_o4 hM
    exact hret _ _ _ _ dX5_cool_13 (hP.sub [0, 1, 2, 3] rfl) (hD.sub [0, 1, 2, 3] (by decide) rfl) hS
set_option maxHeartbeats 4000000 in
set_option maxRecDepth 100000 in
theorem mtX5_cool (l : Launch) (D : va_G) (cI cJ cS : ClassId) (sz : Nat) (m_h m_now_a m_tape_a m_read_a m_heard_a m_undone_a m_aside_a m_kept_a m_lanes_a m_sizes_a m_items_a m_moved_a : Nat) (m_now : Nat → Int32) (m_typed : Int32) (m_place : Int32) (m_isFault : Int32) (m_heard : Nat → Int32) (m_undos : Int32) (m_aside : Nat → Int32) (m_keptUndos : Int32) (m_isKept : Int32) (a1 : Int32) (F : Nat) (r0 : Int32) (w_m_now : Nat → Int32) (w_m_heard : Nat → Int32) (w_m_aside : Nat → Int32) (hM : fnX5_cool F m_now m_heard m_aside a1 = some (r0, w_m_now, w_m_heard, w_m_aside)) : sx_MI l yX5_cool wsX5_cool ({ frames := 5, cells := 0, slots := 0, locals := 116 }) D (sx_T cI cJ cS) sz [.ref m_h, .int a1] [(m_h, .inr (5, [.ref m_now_a, .ref m_tape_a, .int m_typed, .int m_place, .int m_isFault, .ref m_read_a, .ref m_heard_a, .ref m_undone_a, .int m_undos, .ref m_aside_a, .ref m_kept_a, .int m_keptUndos, .int m_isKept, .ref m_lanes_a, .ref m_sizes_a, .ref m_items_a, .ref m_moved_a])), (m_now_a, .inl (cI, 65, .inl m_now)), (m_heard_a, .inl (cI, 8, .inl m_heard)), (m_aside_a, .inl (cI, 65, .inl m_aside))] r0 [(m_h, .inr (5, [.ref m_now_a, .ref m_tape_a, .int m_typed, .int m_place, .int m_isFault, .ref m_read_a, .ref m_heard_a, .ref m_undone_a, .int m_undos, .ref m_aside_a, .ref m_kept_a, .int m_keptUndos, .int m_isKept, .ref m_lanes_a, .ref m_sizes_a, .ref m_items_a, .ref m_moved_a])), (m_now_a, .inl (cI, 65, .inl w_m_now)), (m_heard_a, .inl (cI, 8, .inl w_m_heard)), (m_aside_a, .inl (cI, 65, .inl w_m_aside))] := by
  refine Met.ofW (cc := cX5_cool) (maxL := 3) (ret := (some .int)) (by decide) rfl ?_
  intro p e s m args below meth c s₁ B hml hv
  obtain ⟨rfl, hsz, hN, hP, hK, hD0⟩ := hv
  subst hsz
  have hl := lv_entry ([.ref m_h, .int a1]) (n := 3) (Nat.le_of_ble_eq_true rfl)
  rw [lg_entry_eq]
  generalize (lg_sl ([.ref m_h, .int a1]) ++ List.replicate (3 - (lg_sl ([.ref m_h, .int a1])).length) Slot.unset).toArray = ls at hl ⊢
  exact kwX5_cool B.exec B.bytes hml (findClass_of_methodNamed B.named) (atoms_spec (ws := wsX5_cool) B.pre) hN hK (fun q h => Or.inr h) (by decide) (by decide) ⟨Nat.zero_le _, Nat.zero_le _⟩ m_h m_now_a m_tape_a m_read_a m_heard_a m_undone_a m_aside_a m_kept_a m_lanes_a m_sizes_a m_items_a m_moved_a m_now m_typed m_place m_isFault m_heard m_undos m_aside m_keptUndos m_isKept a1 F r0 w_m_now w_m_heard w_m_aside hM _ _ _ hl hP hD0.self va_S.rf (fun H1 locs1 ls1 pc1 hd hP hD hS => W.iret (v := r0) B.exec B.bytes B.returns (fun t ht hW => ⟨⟨r0, (), rfl, rfl, by rw [ht]; exact hP, hD⟩, hS.F ht⟩) hS.2.2 hd)

def bdX5_thick_27 (F : Nat) (x1_ : Int32) (x2_ : Int32) (m_aside : Nat → Int32) (r_ : Int32 → (Nat → Int32) → (Nat → Int32) → Option (Int32 × (Nat → Int32) × (Nat → Int32) × (Nat → Int32))) (x3_ : Int32) (m_now : Nat → Int32) (m_heard : Nat → Int32) : Option (Int32 × (Nat → Int32) × (Nat → Int32) × (Nat → Int32)) :=
  (if (10 : Int32) ≤ x3_ then (some ((-4 : Int32), m_now, m_heard, m_aside)) else sx_c1 (fnX5_renews F (upd m_now ((2 : Int32)).toNatClampNeg x3_) x3_) (fun (w13 : Nat → Int32) => sx_c3 (fnX5_leaksIn F w13 m_heard m_aside x1_ x2_) (fun (r15 : Int32) (w16 : Nat → Int32) (w17 : Nat → Int32) => (if r15 = 0 then (some (x3_, w16, w17, m_aside)) else sx_nm (x3_ + (1 : Int32)) (fun (v20 : Int32) => (r_ v20 w16 w17))))))
def fnX5_thick (F : Nat) (m_now : Nat → Int32) (m_heard : Nat → Int32) (m_aside : Nat → Int32) (a1 : Int32) (a2 : Int32) : Option (Int32 × (Nat → Int32) × (Nat → Int32) × (Nat → Int32)) :=
  sx_c1 (fnX5_in F (a1).toInt64 (1 : Int64) (30 : Int64)) (fun (r1 : Int32) => (if r1 = 0 then (some ((-1 : Int32), m_now, m_heard, m_aside)) else sx_c1 (fnX5_isHeat F a2) (fun (r4 : Int32) => (if r4 = 0 then (some ((-1 : Int32), m_now, m_heard, m_aside)) else sx_c1 (fnX5_asides F m_now m_aside) (fun (w7 : Nat → Int32) => sx_lp3 (bdX5_thick_27 F a1 a2 w7) F (1 : Int32) m_now m_heard)))))
set_option maxHeartbeats 4000000 in
set_option maxRecDepth 100000 in
theorem kwX5_thick {p : Program} {l : Launch} {e : Env} {R : Room} {s : State} {m : MethodId} {args : Array Value} {below : List Frame} {meth : Method} {c : Code} {cells slots : Nat} {Q : State → Prop} {A : Nat → Prop} {H0 : Heap} {D : va_G} {cI cJ cS : ClassId} (hx : p.tables.exec = Jvm.exec) (hb : c.code = cX5_thick) (hml : c.maxLocals = 4) (hown : s.vm.findClass RX5 = some m.cls) (hts : ∀ w ∈ wsX5_thick, w.before args s = true) (hN : sx_N s) (hK : va_K D vwCl (sx_T cI cJ cS) s) (hA : ∀ q, H0.size ≤ q → A q) (hRf : 5 ≤ R.frames) (hRl : 116 ≤ R.locals) (hRc : cells ≤ R.cells ∧ slots ≤ R.slots) (m_h m_now_a m_tape_a m_read_a m_heard_a m_undone_a m_aside_a m_kept_a m_lanes_a m_sizes_a m_items_a m_moved_a : Nat) (m_now : Nat → Int32) (m_typed : Int32) (m_place : Int32) (m_isFault : Int32) (m_heard : Nat → Int32) (m_undos : Int32) (m_aside : Nat → Int32) (m_keptUndos : Int32) (m_isKept : Int32) (a1 : Int32) (a2 : Int32) (F : Nat) (r0 : Int32) (w_m_now : Nat → Int32) (w_m_heard : Nat → Int32) (w_m_aside : Nat → Int32) (hM : fnX5_thick F m_now m_heard m_aside a1 a2 = some (r0, w_m_now, w_m_heard, w_m_aside)) (H : Heap) (locs : List Loc) (ls : Array Slot) (hl : lv_has ls 4 [(0, .ref m_h), (1, .int a1), (2, .int a2)]) (hP : va_P D vwCl [(m_h, .inr (5, [.ref m_now_a, .ref m_tape_a, .int m_typed, .int m_place, .int m_isFault, .ref m_read_a, .ref m_heard_a, .ref m_undone_a, .int m_undos, .ref m_aside_a, .ref m_kept_a, .int m_keptUndos, .int m_isKept, .ref m_lanes_a, .ref m_sizes_a, .ref m_items_a, .ref m_moved_a])), (m_now_a, .inl (cI, 65, .inl m_now)), (m_heard_a, .inl (cI, 8, .inl m_heard)), (m_aside_a, .inl (cI, 65, .inl m_aside))] H) (hD : va_D A [(m_h, .inr (5, [.ref m_now_a, .ref m_tape_a, .int m_typed, .int m_place, .int m_isFault, .ref m_read_a, .ref m_heard_a, .ref m_undone_a, .int m_undos, .ref m_aside_a, .ref m_kept_a, .int m_keptUndos, .int m_isKept, .ref m_lanes_a, .ref m_sizes_a, .ref m_items_a, .ref m_moved_a])), (m_now_a, .inl (cI, 65, .inl m_now)), (m_heard_a, .inl (cI, 8, .inl m_heard)), (m_aside_a, .inl (cI, 65, .inl m_aside))]) (hS : va_S A H0 H locs)
    (hret : ∀ (H1 : Heap) (locs1 : List Loc) (ls1 : Array Slot) (pc1 : Nat), decode cX5_thick pc1 = .ok (.ireturn, 1) → va_P D vwCl [(m_h, .inr (5, [.ref m_now_a, .ref m_tape_a, .int m_typed, .int m_place, .int m_isFault, .ref m_read_a, .ref m_heard_a, .ref m_undone_a, .int m_undos, .ref m_aside_a, .ref m_kept_a, .int m_keptUndos, .int m_isKept, .ref m_lanes_a, .ref m_sizes_a, .ref m_items_a, .ref m_moved_a])), (m_now_a, .inl (cI, 65, .inl w_m_now)), (m_heard_a, .inl (cI, 8, .inl w_m_heard)), (m_aside_a, .inl (cI, 65, .inl w_m_aside))] H1 → va_D A [(m_h, .inr (5, [.ref m_now_a, .ref m_tape_a, .int m_typed, .int m_place, .int m_isFault, .ref m_read_a, .ref m_heard_a, .ref m_undone_a, .int m_undos, .ref m_aside_a, .ref m_kept_a, .int m_keptUndos, .int m_isKept, .ref m_lanes_a, .ref m_sizes_a, .ref m_items_a, .ref m_moved_a])), (m_now_a, .inl (cI, 65, .inl w_m_now)), (m_heard_a, .inl (cI, 8, .inl w_m_heard)), (m_aside_a, .inl (cI, 65, .inl w_m_aside))] → va_S A H0 H1 locs1 → W p l e R s m args below meth c H1 locs1 cells slots Q (F0 m pc1 ls1 [.int r0])) : W p l e R s m args below meth c H locs cells slots Q (F0 m 0 ls []) := by
  have hf_7 := hts (.fieldLink RX5 7 "SealedLipsModel" "now" "[I") (by decide +kernel)
  have hin_X5 : ∀ w ∈ wsX50, w ∈ wsX5_thick := by decide +kernel
  unfold fnX5_thick at hM
  refine lv_iload_n hx hb dX5_thick_0 rfl (lv_at hl 1 rfl) ?_
  refine lv_i2l hx hb dX5_thick_1 rfl ?_
  refine lv_lconst (v := 1) hx hb dX5_thick_2 (by decide) ?_
  refine lv_ldc2 (v := 30) hx hb hown (hts (.constantLong RX5 101 (30)) (by decide +kernel)) dX5_thick_3 ?_
  obtain ⟨r1, hc2, hM⟩ := sx_c1_s hM
  refine sx_iS (As := [.long (a1).toInt64, .long (1 : Int64), .long (30 : Int64)]) (rest := []) (wc := []) (wr := [(m_h, .inr (5, [.ref m_now_a, .ref m_tape_a, .int m_typed, .int m_place, .int m_isFault, .ref m_read_a, .ref m_heard_a, .ref m_undone_a, .int m_undos, .ref m_aside_a, .ref m_kept_a, .int m_keptUndos, .int m_isKept, .ref m_lanes_a, .ref m_sizes_a, .ref m_items_a, .ref m_moved_a])), (m_now_a, .inl (cI, 65, .inl m_now)), (m_heard_a, .inl (cI, 8, .inl m_heard)), (m_aside_a, .inl (cI, 65, .inl m_aside))]) (w1 := []) ⟨hx, hb, hml, hown, hts⟩ (mtX5_in l D cI cJ cS H.size (a1).toInt64 (1 : Int64) (30 : Int64) F r1 hc2) (va_cwS 3 hts gX5_thick_X5_in rfl rfl rfl (by decide +kernel) ⟨Nat.le_trans (by decide) hRf, Nat.le_trans (by decide) hRl⟩) hK hN hP hD hS hA [] [0, 1, 2, 3] rfl (by decide) rfl (by decide) (by decide) rfl hl.1 rfl (Nat.le_of_ble_eq_true rfl) dX5_thick_6 hRc (fun H locs hP hD hS => ?_)
  have hP : va_P D vwCl [(m_h, .inr (5, [.ref m_now_a, .ref m_tape_a, .int m_typed, .int m_place, .int m_isFault, .ref m_read_a, .ref m_heard_a, .ref m_undone_a, .int m_undos, .ref m_aside_a, .ref m_kept_a, .int m_keptUndos, .int m_isKept, .ref m_lanes_a, .ref m_sizes_a, .ref m_items_a, .ref m_moved_a])), (m_now_a, .inl (cI, 65, .inl m_now)), (m_heard_a, .inl (cI, 8, .inl m_heard)), (m_aside_a, .inl (cI, 65, .inl m_aside))] H := hP
  have hD : va_D A [(m_h, .inr (5, [.ref m_now_a, .ref m_tape_a, .int m_typed, .int m_place, .int m_isFault, .ref m_read_a, .ref m_heard_a, .ref m_undone_a, .int m_undos, .ref m_aside_a, .ref m_kept_a, .int m_keptUndos, .int m_isKept, .ref m_lanes_a, .ref m_sizes_a, .ref m_items_a, .ref m_moved_a])), (m_now_a, .inl (cI, 65, .inl m_now)), (m_heard_a, .inl (cI, 8, .inl m_heard)), (m_aside_a, .inl (cI, 65, .inl m_aside))] := hD
  refine lv_if_eq (tgt := 19) hx hb dX5_thick_9 (by decide) (fun c3 => ?_) (fun c3 => ?_)
  · replace hM := sx_ift c3 hM
    refine lv_iconst (v := -1) hx hb dX5_thick_19 (by decide) ?_
    obtain ⟨rfl, rfl, rfl, rfl⟩ := sx_o4 hM
    exact hret _ _ _ _ dX5_thick_20 (hP.sub [0, 1, 2, 3] rfl) (hD.sub [0, 1, 2, 3] (by decide) rfl) hS
  · replace hM := sx_iff c3 hM
    refine lv_iload_n hx hb dX5_thick_12 rfl (lv_at hl 2 rfl) ?_
    obtain ⟨r4, hc5, hM⟩ := sx_c1_s hM
    refine sx_iS (As := [.int a2]) (rest := []) (wc := []) (wr := [(m_h, .inr (5, [.ref m_now_a, .ref m_tape_a, .int m_typed, .int m_place, .int m_isFault, .ref m_read_a, .ref m_heard_a, .ref m_undone_a, .int m_undos, .ref m_aside_a, .ref m_kept_a, .int m_keptUndos, .int m_isKept, .ref m_lanes_a, .ref m_sizes_a, .ref m_items_a, .ref m_moved_a])), (m_now_a, .inl (cI, 65, .inl m_now)), (m_heard_a, .inl (cI, 8, .inl m_heard)), (m_aside_a, .inl (cI, 65, .inl m_aside))]) (w1 := []) ⟨hx, hb, hml, hown, hts⟩ (mtX5_isHeat l D cI cJ cS H.size a2 F r4 hc5) (va_cwS 1 hts gX5_thick_X5_isHeat rfl rfl rfl (by decide +kernel) ⟨Nat.le_trans (by decide) hRf, Nat.le_trans (by decide) hRl⟩) hK hN hP hD hS hA [] [0, 1, 2, 3] rfl (by decide) rfl (by decide) (by decide) rfl hl.1 rfl (Nat.le_of_ble_eq_true rfl) dX5_thick_13 hRc (fun H locs hP hD hS => ?_)
    have hP : va_P D vwCl [(m_h, .inr (5, [.ref m_now_a, .ref m_tape_a, .int m_typed, .int m_place, .int m_isFault, .ref m_read_a, .ref m_heard_a, .ref m_undone_a, .int m_undos, .ref m_aside_a, .ref m_kept_a, .int m_keptUndos, .int m_isKept, .ref m_lanes_a, .ref m_sizes_a, .ref m_items_a, .ref m_moved_a])), (m_now_a, .inl (cI, 65, .inl m_now)), (m_heard_a, .inl (cI, 8, .inl m_heard)), (m_aside_a, .inl (cI, 65, .inl m_aside))] H := hP
    have hD : va_D A [(m_h, .inr (5, [.ref m_now_a, .ref m_tape_a, .int m_typed, .int m_place, .int m_isFault, .ref m_read_a, .ref m_heard_a, .ref m_undone_a, .int m_undos, .ref m_aside_a, .ref m_kept_a, .int m_keptUndos, .int m_isKept, .ref m_lanes_a, .ref m_sizes_a, .ref m_items_a, .ref m_moved_a])), (m_now_a, .inl (cI, 65, .inl m_now)), (m_heard_a, .inl (cI, 8, .inl m_heard)), (m_aside_a, .inl (cI, 65, .inl m_aside))] := hD
    refine lv_if_ne (tgt := 21) hx hb dX5_thick_16 (by decide) (fun c6 => ?_) (fun c6 => ?_)
    · replace hM := sx_iff c6 hM
      refine lv_aload_n hx hb dX5_thick_21 rfl (lv_at hl 0 rfl) ?_
      obtain ⟨w7, hc8, hM⟩ := sx_c1_s hM
      refine sx_vV (As := []) (rest := []) (wc := [(m_h, .inr (5, [.ref m_now_a, .ref m_tape_a, .int m_typed, .int m_place, .int m_isFault, .ref m_read_a, .ref m_heard_a, .ref m_undone_a, .int m_undos, .ref m_aside_a, .ref m_kept_a, .int m_keptUndos, .int m_isKept, .ref m_lanes_a, .ref m_sizes_a, .ref m_items_a, .ref m_moved_a])), (m_now_a, .inl (cI, 65, .inl m_now)), (m_aside_a, .inl (cI, 65, .inl m_aside))]) (wr := [(m_heard_a, .inl (cI, 8, .inl m_heard))]) (w1 := [(m_h, .inr (5, [.ref m_now_a, .ref m_tape_a, .int m_typed, .int m_place, .int m_isFault, .ref m_read_a, .ref m_heard_a, .ref m_undone_a, .int m_undos, .ref m_aside_a, .ref m_kept_a, .int m_keptUndos, .int m_isKept, .ref m_lanes_a, .ref m_sizes_a, .ref m_items_a, .ref m_moved_a])), (m_now_a, .inl (cI, 65, .inl m_now)), (m_aside_a, .inl (cI, 65, .inl w7))]) ⟨hx, hb, hml, hown, hts⟩ (mtX5_asides l D cI cJ cS H.size m_h m_now_a m_tape_a m_read_a m_heard_a m_undone_a m_aside_a m_kept_a m_lanes_a m_sizes_a m_items_a m_moved_a m_now m_typed m_place m_isFault m_undos m_aside m_keptUndos m_isKept F w7 hc8) (cwV 0 hts gX5_thick_X5_asides rfl rfl rfl (by decide +kernel) ⟨Nat.le_trans (by decide) hRf, Nat.le_trans (by decide) hRl⟩) hK hN hP hD hS hA [0, 1, 3] [2] rfl (by decide) rfl (by decide) (by decide) rfl rfl rfl rfl hl.1 rfl (Nat.le_of_ble_eq_true rfl) dX5_thick_22 hRc (fun H locs hP hD hS => ?_)
      have hP : va_P D vwCl [(m_heard_a, .inl (cI, 8, .inl m_heard)), (m_h, .inr (5, [.ref m_now_a, .ref m_tape_a, .int m_typed, .int m_place, .int m_isFault, .ref m_read_a, .ref m_heard_a, .ref m_undone_a, .int m_undos, .ref m_aside_a, .ref m_kept_a, .int m_keptUndos, .int m_isKept, .ref m_lanes_a, .ref m_sizes_a, .ref m_items_a, .ref m_moved_a])), (m_now_a, .inl (cI, 65, .inl m_now)), (m_aside_a, .inl (cI, 65, .inl w7))] H := hP
      have hD : va_D A [(m_heard_a, .inl (cI, 8, .inl m_heard)), (m_h, .inr (5, [.ref m_now_a, .ref m_tape_a, .int m_typed, .int m_place, .int m_isFault, .ref m_read_a, .ref m_heard_a, .ref m_undone_a, .int m_undos, .ref m_aside_a, .ref m_kept_a, .int m_keptUndos, .int m_isKept, .ref m_lanes_a, .ref m_sizes_a, .ref m_items_a, .ref m_moved_a])), (m_now_a, .inl (cI, 65, .inl m_now)), (m_aside_a, .inl (cI, 65, .inl w7))] := hD
      refine lv_iconst (v := 1) hx hb dX5_thick_25 (by decide) ?_
      refine lv_istore_n (lv' := [(3, .int (1 : Int32)), (0, .ref m_h), (1, .int a1), (2, .int a2)]) hx hb dX5_thick_26 rfl hl (by decide) rfl (fun ls hl => ?_)
      have lp_27 : ∀ (n : Nat) (x9 : Int32) (z10 : Nat → Int32) (z11 : Nat → Int32) (H : Heap) (locs : List Loc) (ls : Array Slot), sx_lp3 (bdX5_thick_27 F a1 a2 w7) n x9 z10 z11 = some (r0, w_m_now, w_m_heard, w_m_aside) → lv_has ls 4 [(0, .ref m_h), (1, .int a1), (2, .int a2), (3, .int x9)] → va_P D vwCl [(m_heard_a, .inl (cI, 8, .inl z11)), (m_h, .inr (5, [.ref m_now_a, .ref m_tape_a, .int m_typed, .int m_place, .int m_isFault, .ref m_read_a, .ref m_heard_a, .ref m_undone_a, .int m_undos, .ref m_aside_a, .ref m_kept_a, .int m_keptUndos, .int m_isKept, .ref m_lanes_a, .ref m_sizes_a, .ref m_items_a, .ref m_moved_a])), (m_now_a, .inl (cI, 65, .inl z10)), (m_aside_a, .inl (cI, 65, .inl w7))] H → va_D A [(m_heard_a, .inl (cI, 8, .inl z11)), (m_h, .inr (5, [.ref m_now_a, .ref m_tape_a, .int m_typed, .int m_place, .int m_isFault, .ref m_read_a, .ref m_heard_a, .ref m_undone_a, .int m_undos, .ref m_aside_a, .ref m_kept_a, .int m_keptUndos, .int m_isKept, .ref m_lanes_a, .ref m_sizes_a, .ref m_items_a, .ref m_moved_a])), (m_now_a, .inl (cI, 65, .inl z10)), (m_aside_a, .inl (cI, 65, .inl w7))] → va_S A H0 H locs → W p l e R s m args below meth c H locs cells slots Q (F0 m 27 ls ([])) := by
        intro n
        induction n with
        | zero => intro x9 z10 z11 H locs ls hM; exact (sx_lp3_0 hM).elim
        | succ n ih =>
          intro x9 z10 z11 H locs ls hM hl hP hD hS
          have hM : bdX5_thick_27 F a1 a2 w7 (sx_lp3 (bdX5_thick_27 F a1 a2 w7) n) x9 z10 z11 = some (r0, w_m_now, w_m_heard, w_m_aside) := hM
          generalize sx_lp3 (bdX5_thick_27 F a1 a2 w7) n = r_27 at hM ih
          unfold bdX5_thick_27 at hM
          refine lv_iload_n hx hb dX5_thick_27 rfl (lv_at hl 3 rfl) ?_
          refine lv_bipush (v := 10) hx hb dX5_thick_28 (by decide) ?_
          refine lv_icmp_ge (tgt := 62) hx hb dX5_thick_30 (by decide) (fun c12 => ?_) (fun c12 => ?_)
          · replace hM := sx_ift c12 hM
            refine lv_bipush (v := -4) hx hb dX5_thick_62 (by decide) ?_
            obtain ⟨rfl, rfl, rfl, rfl⟩ := sx_o4 hM
            exact hret _ _ _ _ dX5_thick_64 (hP.sub [1, 2, 0, 3] rfl) (hD.sub [1, 2, 0, 3] (by decide) rfl) hS
          · replace hM := sx_iff c12 hM
            refine lv_aload_n hx hb dX5_thick_33 rfl (lv_at hl 0 rfl) ?_
            refine va_get (D := D) (ci := 5) (v := .ref m_now_a) (C := RX5) (T := TX5) (N := 17) hx hb hts hin_X5 hown hK hP 1 rfl rfl 0 (by decide) hf_7 (fun _ h9 => h9) rfl dX5_thick_34 ?_
            refine lv_iconst (v := 2) hx hb dX5_thick_37 (by decide) ?_
            refine lv_iload_n hx hb dX5_thick_38 rfl (lv_at hl 3 rfl) ?_
            refine va_iast hx hb hK hP hD hS 2 0 rfl rfl (sx_ib_s (by decide)) dX5_thick_39 (fun H locs hP hD hS => ?_)
            have hP : va_P D vwCl [(m_heard_a, .inl (cI, 8, .inl z11)), (m_h, .inr (5, [.ref m_now_a, .ref m_tape_a, .int m_typed, .int m_place, .int m_isFault, .ref m_read_a, .ref m_heard_a, .ref m_undone_a, .int m_undos, .ref m_aside_a, .ref m_kept_a, .int m_keptUndos, .int m_isKept, .ref m_lanes_a, .ref m_sizes_a, .ref m_items_a, .ref m_moved_a])), (m_now_a, .inl (cI, 65, .inl (upd z10 ((2 : Int32)).toNatClampNeg x9))), (m_aside_a, .inl (cI, 65, .inl w7))] H := hP
            have hD : va_D A [(m_heard_a, .inl (cI, 8, .inl z11)), (m_h, .inr (5, [.ref m_now_a, .ref m_tape_a, .int m_typed, .int m_place, .int m_isFault, .ref m_read_a, .ref m_heard_a, .ref m_undone_a, .int m_undos, .ref m_aside_a, .ref m_kept_a, .int m_keptUndos, .int m_isKept, .ref m_lanes_a, .ref m_sizes_a, .ref m_items_a, .ref m_moved_a])), (m_now_a, .inl (cI, 65, .inl (upd z10 ((2 : Int32)).toNatClampNeg x9))), (m_aside_a, .inl (cI, 65, .inl w7))] := hD
            refine lv_aload_n hx hb dX5_thick_40 rfl (lv_at hl 0 rfl) ?_
            refine lv_iload_n hx hb dX5_thick_41 rfl (lv_at hl 3 rfl) ?_
            obtain ⟨w13, hc14, hM⟩ := sx_c1_s hM
            refine sx_vV (As := [.int x9]) (rest := []) (wc := [(m_h, .inr (5, [.ref m_now_a, .ref m_tape_a, .int m_typed, .int m_place, .int m_isFault, .ref m_read_a, .ref m_heard_a, .ref m_undone_a, .int m_undos, .ref m_aside_a, .ref m_kept_a, .int m_keptUndos, .int m_isKept, .ref m_lanes_a, .ref m_sizes_a, .ref m_items_a, .ref m_moved_a])), (m_now_a, .inl (cI, 65, .inl (upd z10 ((2 : Int32)).toNatClampNeg x9)))]) (wr := [(m_heard_a, .inl (cI, 8, .inl z11)), (m_aside_a, .inl (cI, 65, .inl w7))]) (w1 := [(m_h, .inr (5, [.ref m_now_a, .ref m_tape_a, .int m_typed, .int m_place, .int m_isFault, .ref m_read_a, .ref m_heard_a, .ref m_undone_a, .int m_undos, .ref m_aside_a, .ref m_kept_a, .int m_keptUndos, .int m_isKept, .ref m_lanes_a, .ref m_sizes_a, .ref m_items_a, .ref m_moved_a])), (m_now_a, .inl (cI, 65, .inl w13))]) ⟨hx, hb, hml, hown, hts⟩ (mtX5_renews l D cI cJ cS H.size m_h m_now_a m_tape_a m_read_a m_heard_a m_undone_a m_aside_a m_kept_a m_lanes_a m_sizes_a m_items_a m_moved_a (upd z10 ((2 : Int32)).toNatClampNeg x9) m_typed m_place m_isFault m_undos m_keptUndos m_isKept x9 F w13 hc14) (cwV 1 hts gX5_thick_X5_renews rfl rfl rfl (by decide +kernel) ⟨Nat.le_trans (by decide) hRf, Nat.le_trans (by decide) hRl⟩) hK hN hP hD hS hA [1, 2] [0, 3] rfl (by decide) rfl (by decide) (by decide) rfl rfl rfl rfl hl.1 rfl (Nat.le_of_ble_eq_true rfl) dX5_thick_42 hRc (fun H locs hP hD hS => ?_)
            have hP : va_P D vwCl [(m_heard_a, .inl (cI, 8, .inl z11)), (m_aside_a, .inl (cI, 65, .inl w7)), (m_h, .inr (5, [.ref m_now_a, .ref m_tape_a, .int m_typed, .int m_place, .int m_isFault, .ref m_read_a, .ref m_heard_a, .ref m_undone_a, .int m_undos, .ref m_aside_a, .ref m_kept_a, .int m_keptUndos, .int m_isKept, .ref m_lanes_a, .ref m_sizes_a, .ref m_items_a, .ref m_moved_a])), (m_now_a, .inl (cI, 65, .inl w13))] H := hP
            have hD : va_D A [(m_heard_a, .inl (cI, 8, .inl z11)), (m_aside_a, .inl (cI, 65, .inl w7)), (m_h, .inr (5, [.ref m_now_a, .ref m_tape_a, .int m_typed, .int m_place, .int m_isFault, .ref m_read_a, .ref m_heard_a, .ref m_undone_a, .int m_undos, .ref m_aside_a, .ref m_kept_a, .int m_keptUndos, .int m_isKept, .ref m_lanes_a, .ref m_sizes_a, .ref m_items_a, .ref m_moved_a])), (m_now_a, .inl (cI, 65, .inl w13))] := hD
            refine lv_aload_n hx hb dX5_thick_45 rfl (lv_at hl 0 rfl) ?_
            refine lv_iload_n hx hb dX5_thick_46 rfl (lv_at hl 1 rfl) ?_
            refine lv_iload_n hx hb dX5_thick_47 rfl (lv_at hl 2 rfl) ?_
            obtain ⟨r15, w16, w17, hc18, hM⟩ := sx_c3_s hM
            refine sx_iV (As := [.int a1, .int a2]) (rest := []) (wc := [(m_h, .inr (5, [.ref m_now_a, .ref m_tape_a, .int m_typed, .int m_place, .int m_isFault, .ref m_read_a, .ref m_heard_a, .ref m_undone_a, .int m_undos, .ref m_aside_a, .ref m_kept_a, .int m_keptUndos, .int m_isKept, .ref m_lanes_a, .ref m_sizes_a, .ref m_items_a, .ref m_moved_a])), (m_now_a, .inl (cI, 65, .inl w13)), (m_heard_a, .inl (cI, 8, .inl z11)), (m_aside_a, .inl (cI, 65, .inl w7))]) (wr := []) (w1 := [(m_h, .inr (5, [.ref m_now_a, .ref m_tape_a, .int m_typed, .int m_place, .int m_isFault, .ref m_read_a, .ref m_heard_a, .ref m_undone_a, .int m_undos, .ref m_aside_a, .ref m_kept_a, .int m_keptUndos, .int m_isKept, .ref m_lanes_a, .ref m_sizes_a, .ref m_items_a, .ref m_moved_a])), (m_now_a, .inl (cI, 65, .inl w16)), (m_heard_a, .inl (cI, 8, .inl w17)), (m_aside_a, .inl (cI, 65, .inl w7))]) ⟨hx, hb, hml, hown, hts⟩ (mtX5_leaksIn l D cI cJ cS H.size m_h m_now_a m_tape_a m_read_a m_heard_a m_undone_a m_aside_a m_kept_a m_lanes_a m_sizes_a m_items_a m_moved_a w13 m_typed m_place m_isFault z11 m_undos w7 m_keptUndos m_isKept a1 a2 F r15 w16 w17 hc18) (cwV 2 hts gX5_thick_X5_leaksIn rfl rfl rfl (by decide +kernel) ⟨Nat.le_trans (by decide) hRf, Nat.le_trans (by decide) hRl⟩) hK hN hP hD hS hA [2, 3, 0, 1] [] rfl (by decide) rfl (by decide) (by decide) rfl rfl rfl rfl hl.1 rfl (Nat.le_of_ble_eq_true rfl) dX5_thick_48 hRc (fun H locs hP hD hS => ?_)
            have hP : va_P D vwCl [(m_h, .inr (5, [.ref m_now_a, .ref m_tape_a, .int m_typed, .int m_place, .int m_isFault, .ref m_read_a, .ref m_heard_a, .ref m_undone_a, .int m_undos, .ref m_aside_a, .ref m_kept_a, .int m_keptUndos, .int m_isKept, .ref m_lanes_a, .ref m_sizes_a, .ref m_items_a, .ref m_moved_a])), (m_now_a, .inl (cI, 65, .inl w16)), (m_heard_a, .inl (cI, 8, .inl w17)), (m_aside_a, .inl (cI, 65, .inl w7))] H := hP
            have hD : va_D A [(m_h, .inr (5, [.ref m_now_a, .ref m_tape_a, .int m_typed, .int m_place, .int m_isFault, .ref m_read_a, .ref m_heard_a, .ref m_undone_a, .int m_undos, .ref m_aside_a, .ref m_kept_a, .int m_keptUndos, .int m_isKept, .ref m_lanes_a, .ref m_sizes_a, .ref m_items_a, .ref m_moved_a])), (m_now_a, .inl (cI, 65, .inl w16)), (m_heard_a, .inl (cI, 8, .inl w17)), (m_aside_a, .inl (cI, 65, .inl w7))] := hD
            refine lv_if_ne (tgt := 56) hx hb dX5_thick_51 (by decide) (fun c19 => ?_) (fun c19 => ?_)
            · replace hM := sx_iff c19 hM
              obtain ⟨v20, ev20, hM⟩ := sx_nm_s hM
              refine lv_iinc (v := v20) (lv' := [(3, .int v20), (0, .ref m_h), (1, .int a1), (2, .int a2)]) hx hb dX5_thick_56 hl (k := 3) rfl (by rw [ev20]; rfl) (by decide) rfl (fun ls hl => ?_)
              refine lv_goto (tgt := 27) hx hb dX5_thick_59 (by decide) ?_
              exact ih v20 w16 w17 _ _ _ hM (lv_sub hl [1, 2, 3, 0] rfl) (hP.sub [2, 0, 1, 3] rfl) (hD.sub [2, 0, 1, 3] (by decide) rfl) hS
            · replace hM := sx_ift c19 hM
              refine lv_iload_n hx hb dX5_thick_54 rfl (lv_at hl 3 rfl) ?_
              obtain ⟨rfl, rfl, rfl, rfl⟩ := sx_o4 hM
              exact hret _ _ _ _ dX5_thick_55 (hP.sub [0, 1, 2, 3] rfl) (hD.sub [0, 1, 2, 3] (by decide) rfl) hS
      exact lp_27 F (1 : Int32) m_now m_heard _ _ _ hM (lv_sub hl [1, 2, 3, 0] rfl) (hP.sub [0, 1, 2, 3] rfl) (hD.sub [0, 1, 2, 3] (by decide) rfl) hS
    · replace hM := sx_ift c6 hM
      refine lv_iconst (v := -1) hx hb dX5_thick_19 (by decide) ?_
      obtain ⟨rfl, rfl, rfl, rfl⟩ := sx_o4 hM
      exact hret _ _ _ _ dX5_thick_20 (hP.sub [0, 1, 2, 3] rfl) (hD.sub [0, 1, 2, 3] (by decide) rfl) hS
set_option maxHeartbeats 4000000 in
set_option maxRecDepth 100000 in
theorem mtX5_thick (l : Launch) (D : va_G) (cI cJ cS : ClassId) (sz : Nat) (m_h m_now_a m_tape_a m_read_a m_heard_a m_undone_a m_aside_a m_kept_a m_lanes_a m_sizes_a m_items_a m_moved_a : Nat) (m_now : Nat → Int32) (m_typed : Int32) (m_place : Int32) (m_isFault : Int32) (m_heard : Nat → Int32) (m_undos : Int32) (m_aside : Nat → Int32) (m_keptUndos : Int32) (m_isKept : Int32) (a1 : Int32) (a2 : Int32) (F : Nat) (r0 : Int32) (w_m_now : Nat → Int32) (w_m_heard : Nat → Int32) (w_m_aside : Nat → Int32) (hM : fnX5_thick F m_now m_heard m_aside a1 a2 = some (r0, w_m_now, w_m_heard, w_m_aside)) : sx_MI l yX5_thick wsX5_thick ({ frames := 5, cells := 0, slots := 0, locals := 116 }) D (sx_T cI cJ cS) sz [.ref m_h, .int a1, .int a2] [(m_h, .inr (5, [.ref m_now_a, .ref m_tape_a, .int m_typed, .int m_place, .int m_isFault, .ref m_read_a, .ref m_heard_a, .ref m_undone_a, .int m_undos, .ref m_aside_a, .ref m_kept_a, .int m_keptUndos, .int m_isKept, .ref m_lanes_a, .ref m_sizes_a, .ref m_items_a, .ref m_moved_a])), (m_now_a, .inl (cI, 65, .inl m_now)), (m_heard_a, .inl (cI, 8, .inl m_heard)), (m_aside_a, .inl (cI, 65, .inl m_aside))] r0 [(m_h, .inr (5, [.ref m_now_a, .ref m_tape_a, .int m_typed, .int m_place, .int m_isFault, .ref m_read_a, .ref m_heard_a, .ref m_undone_a, .int m_undos, .ref m_aside_a, .ref m_kept_a, .int m_keptUndos, .int m_isKept, .ref m_lanes_a, .ref m_sizes_a, .ref m_items_a, .ref m_moved_a])), (m_now_a, .inl (cI, 65, .inl w_m_now)), (m_heard_a, .inl (cI, 8, .inl w_m_heard)), (m_aside_a, .inl (cI, 65, .inl w_m_aside))] := by
  refine Met.ofW (cc := cX5_thick) (maxL := 4) (ret := (some .int)) (by decide) rfl ?_
  intro p e s m args below meth c s₁ B hml hv
  obtain ⟨rfl, hsz, hN, hP, hK, hD0⟩ := hv
  subst hsz
  have hl := lv_entry ([.ref m_h, .int a1, .int a2]) (n := 4) (Nat.le_of_ble_eq_true rfl)
  rw [lg_entry_eq]
  generalize (lg_sl ([.ref m_h, .int a1, .int a2]) ++ List.replicate (4 - (lg_sl ([.ref m_h, .int a1, .int a2])).length) Slot.unset).toArray = ls at hl ⊢
  exact kwX5_thick B.exec B.bytes hml (findClass_of_methodNamed B.named) (atoms_spec (ws := wsX5_thick) B.pre) hN hK (fun q h => Or.inr h) (by decide) (by decide) ⟨Nat.zero_le _, Nat.zero_le _⟩ m_h m_now_a m_tape_a m_read_a m_heard_a m_undone_a m_aside_a m_kept_a m_lanes_a m_sizes_a m_items_a m_moved_a m_now m_typed m_place m_isFault m_heard m_undos m_aside m_keptUndos m_isKept a1 a2 F r0 w_m_now w_m_heard w_m_aside hM _ _ _ hl hP hD0.self va_S.rf (fun H1 locs1 ls1 pc1 hd hP hD hS => W.iret (v := r0) B.exec B.bytes B.returns (fun t ht hW => ⟨⟨r0, (), rfl, rfl, by rw [ht]; exact hP, hD⟩, hS.F ht⟩) hS.2.2 hd)

def bdX5_many_4 (F : Nat) (r_ : Int32 → Int32 → Option (Int32)) (x1_ : Int32) (x2_ : Int32) : Option (Int32) :=
  (if x2_ = 0 then (some (x1_)) else sx_nm (x1_ + (1 : Int32)) (fun (v4 : Int32) => sx_nm (x2_ &&& (x2_ - (1 : Int32))) (fun (v5 : Int32) => (r_ v4 v5))))
def fnX5_many (F : Nat) (a1 : Int32) : Option (Int32) :=
  sx_lp2 (bdX5_many_4 F) F (0 : Int32) a1
set_option maxHeartbeats 4000000 in
set_option maxRecDepth 100000 in
theorem kwX5_many {p : Program} {l : Launch} {e : Env} {R : Room} {s : State} {m : MethodId} {args : Array Value} {below : List Frame} {meth : Method} {c : Code} {cells slots : Nat} {Q : State → Prop} {A : Nat → Prop} {H0 : Heap} {D : va_G} {cI cJ cS : ClassId} (hx : p.tables.exec = Jvm.exec) (hb : c.code = cX5_many) (hml : c.maxLocals = 3) (hown : s.vm.findClass RX5 = some m.cls) (hts : ∀ w ∈ wsX5_many, w.before args s = true) (hN : sx_N s) (hK : va_K D vwCl (sx_T cI cJ cS) s) (hA : ∀ q, H0.size ≤ q → A q) (hRf : 0 ≤ R.frames) (hRl : 0 ≤ R.locals) (hRc : cells ≤ R.cells ∧ slots ≤ R.slots) (a1 : Int32) (F : Nat) (r0 : Int32) (hM : fnX5_many F a1 = some r0) (H : Heap) (locs : List Loc) (ls : Array Slot) (hl : lv_has ls 3 [(0, .int a1)]) (hP : va_P D vwCl [] H) (hD : va_D A []) (hS : va_S A H0 H locs)
    (hret : ∀ (H1 : Heap) (locs1 : List Loc) (ls1 : Array Slot) (pc1 : Nat), decode cX5_many pc1 = .ok (.ireturn, 1) → va_P D vwCl [] H1 → va_D A [] → va_S A H0 H1 locs1 → W p l e R s m args below meth c H1 locs1 cells slots Q (F0 m pc1 ls1 [.int r0])) : W p l e R s m args below meth c H locs cells slots Q (F0 m 0 ls []) := by
  unfold fnX5_many at hM
  refine lv_iconst (v := 0) hx hb dX5_many_0 (by decide) ?_
  refine lv_istore_n (lv' := [(1, .int (0 : Int32)), (0, .int a1)]) hx hb dX5_many_1 rfl hl (by decide) rfl (fun ls hl => ?_)
  refine lv_iload_n hx hb dX5_many_2 rfl (lv_at hl 1 rfl) ?_
  refine lv_istore_n (lv' := [(2, .int a1), (1, .int (0 : Int32)), (0, .int a1)]) hx hb dX5_many_3 rfl hl (by decide) rfl (fun ls hl => ?_)
  have lp_4 : ∀ (n : Nat) (x1 : Int32) (x2 : Int32) (H : Heap) (locs : List Loc) (ls : Array Slot), sx_lp2 (bdX5_many_4 F) n x1 x2 = some r0 → lv_has ls 3 [(1, .int x1), (2, .int x2)] → va_P D vwCl [] H → va_D A [] → va_S A H0 H locs → W p l e R s m args below meth c H locs cells slots Q (F0 m 4 ls ([])) := by
    intro n
    induction n with
    | zero => intro x1 x2 H locs ls hM; exact (sx_lp2_0 hM).elim
    | succ n ih =>
      intro x1 x2 H locs ls hM hl hP hD hS
      have hM : bdX5_many_4 F (sx_lp2 (bdX5_many_4 F) n) x1 x2 = some r0 := hM
      generalize sx_lp2 (bdX5_many_4 F) n = r_4 at hM ih
      unfold bdX5_many_4 at hM
      refine lv_iload_n hx hb dX5_many_4 rfl (lv_at hl 1 rfl) ?_
      refine lv_if_eq (tgt := 20) hx hb dX5_many_5 (by decide) (fun c3 => ?_) (fun c3 => ?_)
      · replace hM := sx_ift c3 hM
        refine lv_iload_n hx hb dX5_many_20 rfl (lv_at hl 0 rfl) ?_
        obtain rfl := sx_o1 hM
        exact hret _ _ _ _ dX5_many_21 (hP.sub [] rfl) (hD.sub [] (by decide) rfl) hS
      · replace hM := sx_iff c3 hM
        obtain ⟨v4, ev4, hM⟩ := sx_nm_s hM
        refine lv_iinc (v := v4) (lv' := [(1, .int v4), (2, .int x2)]) hx hb dX5_many_8 hl (k := 0) rfl (by rw [ev4]; rfl) (by decide) rfl (fun ls hl => ?_)
        refine lv_iload_n hx hb dX5_many_11 rfl (lv_at hl 1 rfl) ?_
        refine lv_iload_n hx hb dX5_many_12 rfl (lv_at hl 1 rfl) ?_
        refine lv_iconst (v := 1) hx hb dX5_many_13 (by decide) ?_
        refine lv_isub hx hb dX5_many_14 ?_
        refine lv_iand hx hb dX5_many_15 ?_
        obtain ⟨v5, ev5, hM⟩ := sx_nm_s hM
        refine W.eq (g2 := F0 m 16 ls (.int v5 :: [])) (by subst ev5; rfl) ?_
        refine lv_istore_n (lv' := [(2, .int v5), (1, .int v4)]) hx hb dX5_many_16 rfl hl (by decide) rfl (fun ls hl => ?_)
        refine lv_goto (tgt := 4) hx hb dX5_many_17 (by decide) ?_
        exact ih v4 v5 _ _ _ hM (lv_sub hl [1, 0] rfl) (hP.sub [] rfl) (hD.sub [] (by decide) rfl) hS
  exact lp_4 F (0 : Int32) a1 _ _ _ hM (lv_sub hl [1, 0] rfl) (hP.sub [] rfl) (hD.sub [] (by decide) rfl) hS
set_option maxHeartbeats 4000000 in
set_option maxRecDepth 100000 in
theorem mtX5_many (l : Launch) (D : va_G) (cI cJ cS : ClassId) (sz : Nat) (a1 : Int32) (F : Nat) (r0 : Int32) (hM : fnX5_many F a1 = some r0) : sx_MI l yX5_many wsX5_many ({ frames := 0, cells := 0, slots := 0, locals := 0 }) D (sx_T cI cJ cS) sz [.int a1] [] r0 [] := by
  refine Met.ofW (cc := cX5_many) (maxL := 3) (ret := (some .int)) (by decide) rfl ?_
  intro p e s m args below meth c s₁ B hml hv
  obtain ⟨rfl, hsz, hN, hP, hK, hD0⟩ := hv
  subst hsz
  have hl := lv_entry ([.int a1]) (n := 3) (Nat.le_of_ble_eq_true rfl)
  rw [lg_entry_eq]
  generalize (lg_sl ([.int a1]) ++ List.replicate (3 - (lg_sl ([.int a1])).length) Slot.unset).toArray = ls at hl ⊢
  exact kwX5_many B.exec B.bytes hml (findClass_of_methodNamed B.named) (atoms_spec (ws := wsX5_many) B.pre) hN hK (fun q h => Or.inr h) (by decide) (by decide) ⟨Nat.zero_le _, Nat.zero_le _⟩ a1 F r0 hM _ _ _ hl hP hD0.self va_S.rf (fun H1 locs1 ls1 pc1 hd hP hD hS => W.iret (v := r0) B.exec B.bytes B.returns (fun t ht hW => ⟨⟨r0, (), rfl, rfl, by rw [ht]; exact hP, hD⟩, hS.F ht⟩) hS.2.2 hd)

def bdX5_renew_110 (F : Nat) (x1_ : Int32) (x8_ : Int32) (kf_169 : (Nat → Int32) → Option (Int32 × (Nat → Int32) × (Nat → Int32) × (Nat → Int32))) (r_ : Int32 → (Nat → Int32) → Option (Int32 × (Nat → Int32) × (Nat → Int32) × (Nat → Int32))) (x9_ : Int32) (m_now : Nat → Int32) : Option (Int32 × (Nat → Int32) × (Nat → Int32) × (Nat → Int32)) :=
  (if (m_now ((0 : Int32)).toNatClampNeg) ≤ x9_ then (kf_169 m_now) else sx_lt (fun (y53 : Int32) => sx_gd (sx_ib (((17 : Int32) + ((8 : Int32) * x9_)) + x1_) 65) (sx_nm (x9_ + (1 : Int32)) (fun (v55 : Int32) => (r_ v55 (upd m_now ((((17 : Int32) + ((8 : Int32) * x9_)) + x1_)).toNatClampNeg y53))))) (fun (k_162 : Int32 → Option (Int32 × (Nat → Int32) × (Nat → Int32) × (Nat → Int32))) => (if ((x8_ >>> (x9_ &&& 31)) &&& (1 : Int32)) = (1 : Int32) then (k_162 (m_now ((2 : Int32)).toNatClampNeg)) else sx_c1 (fnX5_sealOf F m_now x9_ x1_) (fun (r57 : Int32) => (k_162 r57)))))
def bdX5_renew_70 (F : Nat) (x1_ : Int32) (x2_ : Int32) (x3_ : Int32) (x4_ : Int32) (x6_ : Int32) (m_aside : Nat → Int32) (kf_207 : Int32 → (Nat → Int32) → (Nat → Int32) → Option (Int32 × (Nat → Int32) × (Nat → Int32) × (Nat → Int32))) (r_ : Int32 → Int32 → (Nat → Int32) → (Nat → Int32) → Option (Int32 × (Nat → Int32) × (Nat → Int32) × (Nat → Int32))) (x7_ : Int32) (x8_ : Int32) (m_now : Nat → Int32) (m_heard : Nat → Int32) : Option (Int32 × (Nat → Int32) × (Nat → Int32) × (Nat → Int32)) :=
  (if x6_ < x8_ then (kf_207 x7_ m_now m_heard) else sx_lt (fun (x32 : Int32) (z33 : Nat → Int32) (z34 : Nat → Int32) => sx_nm (x8_ + (1 : Int32)) (fun (v35 : Int32) => (r_ x32 v35 z33 z34))) (fun (k_201 : Int32 → (Nat → Int32) → (Nat → Int32) → Option (Int32 × (Nat → Int32) × (Nat → Int32) × (Nat → Int32))) => (if (x8_ &&& (x6_ ^^^ (-1 : Int32))) = 0 then sx_lt (sx_lt (fun (z37 : Nat → Int32) => sx_c2 (fnX5_goesOn F z37 m_heard x2_ x3_) (fun (w38 : Nat → Int32) (w39 : Nat → Int32) => sx_c1 (fnX5_who F w38 x1_) (fun (r41 : Int32) => sx_c1 (fnX5_many F r41) (fun (r43 : Int32) => (if x4_ < r43 then sx_c1 (fnX5_backs F w38 m_aside) (fun (w46 : Nat → Int32) => (k_201 x7_ w46 w39)) else sx_c1 (fnX5_backs F w38 m_aside) (fun (w48 : Nat → Int32) => (k_201 x8_ w48 w39))))))) (fun (k_169 : (Nat → Int32) → Option (Int32 × (Nat → Int32) × (Nat → Int32) × (Nat → Int32))) => sx_lp2 (bdX5_renew_110 F x1_ x8_ k_169) F (0 : Int32) m_now)) (fun (k_107 : Option (Int32 × (Nat → Int32) × (Nat → Int32) × (Nat → Int32))) => (if x7_ = (-4 : Int32) then k_107 else sx_c1 (fnX5_many F x8_) (fun (r60 : Int32) => sx_c1 (fnX5_many F x7_) (fun (r62 : Int32) => (if r62 ≤ r60 then (k_201 x7_ m_now m_heard) else k_107))))) else (k_201 x7_ m_now m_heard))))
def fnX5_renew (F : Nat) (m_now : Nat → Int32) (m_heard : Nat → Int32) (m_aside : Nat → Int32) (a1 : Int32) (a2 : Int32) (a3 : Int32) (a4 : Int32) (a5 : Int32) : Option (Int32 × (Nat → Int32) × (Nat → Int32) × (Nat → Int32)) :=
  sx_c1 (fnX5_isThing F a1) (fun (r1 : Int32) => (if r1 = 0 then (some ((-1 : Int32), m_now, m_heard, m_aside)) else sx_c1 (fnX5_in F (a2).toInt64 (0 : Int64) (60 : Int64)) (fun (r4 : Int32) => (if r4 = 0 then (some ((-1 : Int32), m_now, m_heard, m_aside)) else sx_c1 (fnX5_isHeat F a3) (fun (r7 : Int32) => (if r7 = 0 then (some ((-1 : Int32), m_now, m_heard, m_aside)) else sx_c1 (fnX5_in F (a4).toInt64 (0 : Int64) (6 : Int64)) (fun (r10 : Int32) => (if r10 = 0 then (some ((-1 : Int32), m_now, m_heard, m_aside)) else sx_c1 (fnX5_in F (a5).toInt64 (0 : Int64) (1 : Int64)) (fun (r13 : Int32) => (if r13 = 0 then (some ((-1 : Int32), m_now, m_heard, m_aside)) else sx_c1 (fnX5_asides F m_now m_aside) (fun (w16 : Nat → Int32) => sx_c1 (fnX5_who F m_now a1) (fun (r18 : Int32) => sx_lt (fun (x20 : Int32) (z21 : Nat → Int32) (z22 : Nat → Int32) => (if a5 = (1 : Int32) then (some (x20, z21, z22, w16)) else (if x20 = (-4 : Int32) then (some (x20, z21, z22, w16)) else sx_c1 (fnX5_many F x20) (fun (r25 : Int32) => (some (r25, z21, z22, w16)))))) (fun (k_207 : Int32 → (Nat → Int32) → (Nat → Int32) → Option (Int32 × (Nat → Int32) × (Nat → Int32) × (Nat → Int32))) => sx_lp4 (bdX5_renew_70 F a1 a2 a3 a4 r18 w16 k_207) F (-4 : Int32) (0 : Int32) m_now m_heard)))))))))))))
set_option maxHeartbeats 4000000 in
set_option maxRecDepth 100000 in
theorem kwX5_renew {p : Program} {l : Launch} {e : Env} {R : Room} {s : State} {m : MethodId} {args : Array Value} {below : List Frame} {meth : Method} {c : Code} {cells slots : Nat} {Q : State → Prop} {A : Nat → Prop} {H0 : Heap} {D : va_G} {cI cJ cS : ClassId} (hx : p.tables.exec = Jvm.exec) (hb : c.code = cX5_renew) (hml : c.maxLocals = 10) (hown : s.vm.findClass RX5 = some m.cls) (hts : ∀ w ∈ wsX5_renew, w.before args s = true) (hN : sx_N s) (hK : va_K D vwCl (sx_T cI cJ cS) s) (hA : ∀ q, H0.size ≤ q → A q) (hRf : 4 ≤ R.frames) (hRl : 92 ≤ R.locals) (hRc : cells ≤ R.cells ∧ slots ≤ R.slots) (m_h m_now_a m_tape_a m_read_a m_heard_a m_undone_a m_aside_a m_kept_a m_lanes_a m_sizes_a m_items_a m_moved_a : Nat) (m_now : Nat → Int32) (m_typed : Int32) (m_place : Int32) (m_isFault : Int32) (m_heard : Nat → Int32) (m_undos : Int32) (m_aside : Nat → Int32) (m_keptUndos : Int32) (m_isKept : Int32) (a1 : Int32) (a2 : Int32) (a3 : Int32) (a4 : Int32) (a5 : Int32) (F : Nat) (r0 : Int32) (w_m_now : Nat → Int32) (w_m_heard : Nat → Int32) (w_m_aside : Nat → Int32) (hM : fnX5_renew F m_now m_heard m_aside a1 a2 a3 a4 a5 = some (r0, w_m_now, w_m_heard, w_m_aside)) (H : Heap) (locs : List Loc) (ls : Array Slot) (hl : lv_has ls 10 [(0, .ref m_h), (1, .int a1), (2, .int a2), (3, .int a3), (4, .int a4), (5, .int a5)]) (hP : va_P D vwCl [(m_h, .inr (5, [.ref m_now_a, .ref m_tape_a, .int m_typed, .int m_place, .int m_isFault, .ref m_read_a, .ref m_heard_a, .ref m_undone_a, .int m_undos, .ref m_aside_a, .ref m_kept_a, .int m_keptUndos, .int m_isKept, .ref m_lanes_a, .ref m_sizes_a, .ref m_items_a, .ref m_moved_a])), (m_now_a, .inl (cI, 65, .inl m_now)), (m_heard_a, .inl (cI, 8, .inl m_heard)), (m_aside_a, .inl (cI, 65, .inl m_aside))] H) (hD : va_D A [(m_h, .inr (5, [.ref m_now_a, .ref m_tape_a, .int m_typed, .int m_place, .int m_isFault, .ref m_read_a, .ref m_heard_a, .ref m_undone_a, .int m_undos, .ref m_aside_a, .ref m_kept_a, .int m_keptUndos, .int m_isKept, .ref m_lanes_a, .ref m_sizes_a, .ref m_items_a, .ref m_moved_a])), (m_now_a, .inl (cI, 65, .inl m_now)), (m_heard_a, .inl (cI, 8, .inl m_heard)), (m_aside_a, .inl (cI, 65, .inl m_aside))]) (hS : va_S A H0 H locs)
    (hret : ∀ (H1 : Heap) (locs1 : List Loc) (ls1 : Array Slot) (pc1 : Nat), decode cX5_renew pc1 = .ok (.ireturn, 1) → va_P D vwCl [(m_h, .inr (5, [.ref m_now_a, .ref m_tape_a, .int m_typed, .int m_place, .int m_isFault, .ref m_read_a, .ref m_heard_a, .ref m_undone_a, .int m_undos, .ref m_aside_a, .ref m_kept_a, .int m_keptUndos, .int m_isKept, .ref m_lanes_a, .ref m_sizes_a, .ref m_items_a, .ref m_moved_a])), (m_now_a, .inl (cI, 65, .inl w_m_now)), (m_heard_a, .inl (cI, 8, .inl w_m_heard)), (m_aside_a, .inl (cI, 65, .inl w_m_aside))] H1 → va_D A [(m_h, .inr (5, [.ref m_now_a, .ref m_tape_a, .int m_typed, .int m_place, .int m_isFault, .ref m_read_a, .ref m_heard_a, .ref m_undone_a, .int m_undos, .ref m_aside_a, .ref m_kept_a, .int m_keptUndos, .int m_isKept, .ref m_lanes_a, .ref m_sizes_a, .ref m_items_a, .ref m_moved_a])), (m_now_a, .inl (cI, 65, .inl w_m_now)), (m_heard_a, .inl (cI, 8, .inl w_m_heard)), (m_aside_a, .inl (cI, 65, .inl w_m_aside))] → va_S A H0 H1 locs1 → W p l e R s m args below meth c H1 locs1 cells slots Q (F0 m pc1 ls1 [.int r0])) : W p l e R s m args below meth c H locs cells slots Q (F0 m 0 ls []) := by
  have hf_7 := hts (.fieldLink RX5 7 "SealedLipsModel" "now" "[I") (by decide +kernel)
  have hin_X5 : ∀ w ∈ wsX50, w ∈ wsX5_renew := by decide +kernel
  unfold fnX5_renew at hM
  refine lv_iload_n hx hb dX5_renew_0 rfl (lv_at hl 1 rfl) ?_
  obtain ⟨r1, hc2, hM⟩ := sx_c1_s hM
  refine sx_iS (As := [.int a1]) (rest := []) (wc := []) (wr := [(m_h, .inr (5, [.ref m_now_a, .ref m_tape_a, .int m_typed, .int m_place, .int m_isFault, .ref m_read_a, .ref m_heard_a, .ref m_undone_a, .int m_undos, .ref m_aside_a, .ref m_kept_a, .int m_keptUndos, .int m_isKept, .ref m_lanes_a, .ref m_sizes_a, .ref m_items_a, .ref m_moved_a])), (m_now_a, .inl (cI, 65, .inl m_now)), (m_heard_a, .inl (cI, 8, .inl m_heard)), (m_aside_a, .inl (cI, 65, .inl m_aside))]) (w1 := []) ⟨hx, hb, hml, hown, hts⟩ (mtX5_isThing l D cI cJ cS H.size a1 F r1 hc2) (va_cwS 1 hts gX5_renew_X5_isThing rfl rfl rfl (by decide +kernel) ⟨Nat.le_trans (by decide) hRf, Nat.le_trans (by decide) hRl⟩) hK hN hP hD hS hA [] [0, 1, 2, 3] rfl (by decide) rfl (by decide) (by decide) rfl hl.1 rfl (Nat.le_of_ble_eq_true rfl) dX5_renew_1 hRc (fun H locs hP hD hS => ?_)
  have hP : va_P D vwCl [(m_h, .inr (5, [.ref m_now_a, .ref m_tape_a, .int m_typed, .int m_place, .int m_isFault, .ref m_read_a, .ref m_heard_a, .ref m_undone_a, .int m_undos, .ref m_aside_a, .ref m_kept_a, .int m_keptUndos, .int m_isKept, .ref m_lanes_a, .ref m_sizes_a, .ref m_items_a, .ref m_moved_a])), (m_now_a, .inl (cI, 65, .inl m_now)), (m_heard_a, .inl (cI, 8, .inl m_heard)), (m_aside_a, .inl (cI, 65, .inl m_aside))] H := hP
  have hD : va_D A [(m_h, .inr (5, [.ref m_now_a, .ref m_tape_a, .int m_typed, .int m_place, .int m_isFault, .ref m_read_a, .ref m_heard_a, .ref m_undone_a, .int m_undos, .ref m_aside_a, .ref m_kept_a, .int m_keptUndos, .int m_isKept, .ref m_lanes_a, .ref m_sizes_a, .ref m_items_a, .ref m_moved_a])), (m_now_a, .inl (cI, 65, .inl m_now)), (m_heard_a, .inl (cI, 8, .inl m_heard)), (m_aside_a, .inl (cI, 65, .inl m_aside))] := hD
  refine lv_if_eq (tgt := 50) hx hb dX5_renew_4 (by decide) (fun c3 => ?_) (fun c3 => ?_)
  · replace hM := sx_ift c3 hM
    refine lv_iconst (v := -1) hx hb dX5_renew_50 (by decide) ?_
    obtain ⟨rfl, rfl, rfl, rfl⟩ := sx_o4 hM
    exact hret _ _ _ _ dX5_renew_51 (hP.sub [0, 1, 2, 3] rfl) (hD.sub [0, 1, 2, 3] (by decide) rfl) hS
  · replace hM := sx_iff c3 hM
    refine lv_iload_n hx hb dX5_renew_7 rfl (lv_at hl 2 rfl) ?_
    refine lv_i2l hx hb dX5_renew_8 rfl ?_
    refine lv_lconst (v := 0) hx hb dX5_renew_9 (by decide) ?_
    refine lv_ldc2 (v := 60) hx hb hown (hts (.constantLong RX5 172 (60)) (by decide +kernel)) dX5_renew_10 ?_
    obtain ⟨r4, hc5, hM⟩ := sx_c1_s hM
    refine sx_iS (As := [.long (a2).toInt64, .long (0 : Int64), .long (60 : Int64)]) (rest := []) (wc := []) (wr := [(m_h, .inr (5, [.ref m_now_a, .ref m_tape_a, .int m_typed, .int m_place, .int m_isFault, .ref m_read_a, .ref m_heard_a, .ref m_undone_a, .int m_undos, .ref m_aside_a, .ref m_kept_a, .int m_keptUndos, .int m_isKept, .ref m_lanes_a, .ref m_sizes_a, .ref m_items_a, .ref m_moved_a])), (m_now_a, .inl (cI, 65, .inl m_now)), (m_heard_a, .inl (cI, 8, .inl m_heard)), (m_aside_a, .inl (cI, 65, .inl m_aside))]) (w1 := []) ⟨hx, hb, hml, hown, hts⟩ (mtX5_in l D cI cJ cS H.size (a2).toInt64 (0 : Int64) (60 : Int64) F r4 hc5) (va_cwS 3 hts gX5_renew_X5_in rfl rfl rfl (by decide +kernel) ⟨Nat.le_trans (by decide) hRf, Nat.le_trans (by decide) hRl⟩) hK hN hP hD hS hA [] [0, 1, 2, 3] rfl (by decide) rfl (by decide) (by decide) rfl hl.1 rfl (Nat.le_of_ble_eq_true rfl) dX5_renew_13 hRc (fun H locs hP hD hS => ?_)
    have hP : va_P D vwCl [(m_h, .inr (5, [.ref m_now_a, .ref m_tape_a, .int m_typed, .int m_place, .int m_isFault, .ref m_read_a, .ref m_heard_a, .ref m_undone_a, .int m_undos, .ref m_aside_a, .ref m_kept_a, .int m_keptUndos, .int m_isKept, .ref m_lanes_a, .ref m_sizes_a, .ref m_items_a, .ref m_moved_a])), (m_now_a, .inl (cI, 65, .inl m_now)), (m_heard_a, .inl (cI, 8, .inl m_heard)), (m_aside_a, .inl (cI, 65, .inl m_aside))] H := hP
    have hD : va_D A [(m_h, .inr (5, [.ref m_now_a, .ref m_tape_a, .int m_typed, .int m_place, .int m_isFault, .ref m_read_a, .ref m_heard_a, .ref m_undone_a, .int m_undos, .ref m_aside_a, .ref m_kept_a, .int m_keptUndos, .int m_isKept, .ref m_lanes_a, .ref m_sizes_a, .ref m_items_a, .ref m_moved_a])), (m_now_a, .inl (cI, 65, .inl m_now)), (m_heard_a, .inl (cI, 8, .inl m_heard)), (m_aside_a, .inl (cI, 65, .inl m_aside))] := hD
    refine lv_if_eq (tgt := 50) hx hb dX5_renew_16 (by decide) (fun c6 => ?_) (fun c6 => ?_)
    · replace hM := sx_ift c6 hM
      refine lv_iconst (v := -1) hx hb dX5_renew_50 (by decide) ?_
      obtain ⟨rfl, rfl, rfl, rfl⟩ := sx_o4 hM
      exact hret _ _ _ _ dX5_renew_51 (hP.sub [0, 1, 2, 3] rfl) (hD.sub [0, 1, 2, 3] (by decide) rfl) hS
    · replace hM := sx_iff c6 hM
      refine lv_iload_n hx hb dX5_renew_19 rfl (lv_at hl 3 rfl) ?_
      obtain ⟨r7, hc8, hM⟩ := sx_c1_s hM
      refine sx_iS (As := [.int a3]) (rest := []) (wc := []) (wr := [(m_h, .inr (5, [.ref m_now_a, .ref m_tape_a, .int m_typed, .int m_place, .int m_isFault, .ref m_read_a, .ref m_heard_a, .ref m_undone_a, .int m_undos, .ref m_aside_a, .ref m_kept_a, .int m_keptUndos, .int m_isKept, .ref m_lanes_a, .ref m_sizes_a, .ref m_items_a, .ref m_moved_a])), (m_now_a, .inl (cI, 65, .inl m_now)), (m_heard_a, .inl (cI, 8, .inl m_heard)), (m_aside_a, .inl (cI, 65, .inl m_aside))]) (w1 := []) ⟨hx, hb, hml, hown, hts⟩ (mtX5_isHeat l D cI cJ cS H.size a3 F r7 hc8) (va_cwS 1 hts gX5_renew_X5_isHeat rfl rfl rfl (by decide +kernel) ⟨Nat.le_trans (by decide) hRf, Nat.le_trans (by decide) hRl⟩) hK hN hP hD hS hA [] [0, 1, 2, 3] rfl (by decide) rfl (by decide) (by decide) rfl hl.1 rfl (Nat.le_of_ble_eq_true rfl) dX5_renew_20 hRc (fun H locs hP hD hS => ?_)
      have hP : va_P D vwCl [(m_h, .inr (5, [.ref m_now_a, .ref m_tape_a, .int m_typed, .int m_place, .int m_isFault, .ref m_read_a, .ref m_heard_a, .ref m_undone_a, .int m_undos, .ref m_aside_a, .ref m_kept_a, .int m_keptUndos, .int m_isKept, .ref m_lanes_a, .ref m_sizes_a, .ref m_items_a, .ref m_moved_a])), (m_now_a, .inl (cI, 65, .inl m_now)), (m_heard_a, .inl (cI, 8, .inl m_heard)), (m_aside_a, .inl (cI, 65, .inl m_aside))] H := hP
      have hD : va_D A [(m_h, .inr (5, [.ref m_now_a, .ref m_tape_a, .int m_typed, .int m_place, .int m_isFault, .ref m_read_a, .ref m_heard_a, .ref m_undone_a, .int m_undos, .ref m_aside_a, .ref m_kept_a, .int m_keptUndos, .int m_isKept, .ref m_lanes_a, .ref m_sizes_a, .ref m_items_a, .ref m_moved_a])), (m_now_a, .inl (cI, 65, .inl m_now)), (m_heard_a, .inl (cI, 8, .inl m_heard)), (m_aside_a, .inl (cI, 65, .inl m_aside))] := hD
      refine lv_if_eq (tgt := 50) hx hb dX5_renew_23 (by decide) (fun c9 => ?_) (fun c9 => ?_)
      · replace hM := sx_ift c9 hM
        refine lv_iconst (v := -1) hx hb dX5_renew_50 (by decide) ?_
        obtain ⟨rfl, rfl, rfl, rfl⟩ := sx_o4 hM
        exact hret _ _ _ _ dX5_renew_51 (hP.sub [0, 1, 2, 3] rfl) (hD.sub [0, 1, 2, 3] (by decide) rfl) hS
      · replace hM := sx_iff c9 hM
        refine lv_iload hx hb dX5_renew_26 (lv_at hl 4 rfl) ?_
        refine lv_i2l hx hb dX5_renew_28 rfl ?_
        refine lv_lconst (v := 0) hx hb dX5_renew_29 (by decide) ?_
        refine lv_ldc2 (v := 6) hx hb hown (hts (.constantLong RX5 187 (6)) (by decide +kernel)) dX5_renew_30 ?_
        obtain ⟨r10, hc11, hM⟩ := sx_c1_s hM
        refine sx_iS (As := [.long (a4).toInt64, .long (0 : Int64), .long (6 : Int64)]) (rest := []) (wc := []) (wr := [(m_h, .inr (5, [.ref m_now_a, .ref m_tape_a, .int m_typed, .int m_place, .int m_isFault, .ref m_read_a, .ref m_heard_a, .ref m_undone_a, .int m_undos, .ref m_aside_a, .ref m_kept_a, .int m_keptUndos, .int m_isKept, .ref m_lanes_a, .ref m_sizes_a, .ref m_items_a, .ref m_moved_a])), (m_now_a, .inl (cI, 65, .inl m_now)), (m_heard_a, .inl (cI, 8, .inl m_heard)), (m_aside_a, .inl (cI, 65, .inl m_aside))]) (w1 := []) ⟨hx, hb, hml, hown, hts⟩ (mtX5_in l D cI cJ cS H.size (a4).toInt64 (0 : Int64) (6 : Int64) F r10 hc11) (va_cwS 3 hts gX5_renew_X5_in rfl rfl rfl (by decide +kernel) ⟨Nat.le_trans (by decide) hRf, Nat.le_trans (by decide) hRl⟩) hK hN hP hD hS hA [] [0, 1, 2, 3] rfl (by decide) rfl (by decide) (by decide) rfl hl.1 rfl (Nat.le_of_ble_eq_true rfl) dX5_renew_33 hRc (fun H locs hP hD hS => ?_)
        have hP : va_P D vwCl [(m_h, .inr (5, [.ref m_now_a, .ref m_tape_a, .int m_typed, .int m_place, .int m_isFault, .ref m_read_a, .ref m_heard_a, .ref m_undone_a, .int m_undos, .ref m_aside_a, .ref m_kept_a, .int m_keptUndos, .int m_isKept, .ref m_lanes_a, .ref m_sizes_a, .ref m_items_a, .ref m_moved_a])), (m_now_a, .inl (cI, 65, .inl m_now)), (m_heard_a, .inl (cI, 8, .inl m_heard)), (m_aside_a, .inl (cI, 65, .inl m_aside))] H := hP
        have hD : va_D A [(m_h, .inr (5, [.ref m_now_a, .ref m_tape_a, .int m_typed, .int m_place, .int m_isFault, .ref m_read_a, .ref m_heard_a, .ref m_undone_a, .int m_undos, .ref m_aside_a, .ref m_kept_a, .int m_keptUndos, .int m_isKept, .ref m_lanes_a, .ref m_sizes_a, .ref m_items_a, .ref m_moved_a])), (m_now_a, .inl (cI, 65, .inl m_now)), (m_heard_a, .inl (cI, 8, .inl m_heard)), (m_aside_a, .inl (cI, 65, .inl m_aside))] := hD
        refine lv_if_eq (tgt := 50) hx hb dX5_renew_36 (by decide) (fun c12 => ?_) (fun c12 => ?_)
        · replace hM := sx_ift c12 hM
          refine lv_iconst (v := -1) hx hb dX5_renew_50 (by decide) ?_
          obtain ⟨rfl, rfl, rfl, rfl⟩ := sx_o4 hM
          exact hret _ _ _ _ dX5_renew_51 (hP.sub [0, 1, 2, 3] rfl) (hD.sub [0, 1, 2, 3] (by decide) rfl) hS
        · replace hM := sx_iff c12 hM
          refine lv_iload hx hb dX5_renew_39 (lv_at hl 5 rfl) ?_
          refine lv_i2l hx hb dX5_renew_41 rfl ?_
          refine lv_lconst (v := 0) hx hb dX5_renew_42 (by decide) ?_
          refine lv_lconst (v := 1) hx hb dX5_renew_43 (by decide) ?_
          obtain ⟨r13, hc14, hM⟩ := sx_c1_s hM
          refine sx_iS (As := [.long (a5).toInt64, .long (0 : Int64), .long (1 : Int64)]) (rest := []) (wc := []) (wr := [(m_h, .inr (5, [.ref m_now_a, .ref m_tape_a, .int m_typed, .int m_place, .int m_isFault, .ref m_read_a, .ref m_heard_a, .ref m_undone_a, .int m_undos, .ref m_aside_a, .ref m_kept_a, .int m_keptUndos, .int m_isKept, .ref m_lanes_a, .ref m_sizes_a, .ref m_items_a, .ref m_moved_a])), (m_now_a, .inl (cI, 65, .inl m_now)), (m_heard_a, .inl (cI, 8, .inl m_heard)), (m_aside_a, .inl (cI, 65, .inl m_aside))]) (w1 := []) ⟨hx, hb, hml, hown, hts⟩ (mtX5_in l D cI cJ cS H.size (a5).toInt64 (0 : Int64) (1 : Int64) F r13 hc14) (va_cwS 3 hts gX5_renew_X5_in rfl rfl rfl (by decide +kernel) ⟨Nat.le_trans (by decide) hRf, Nat.le_trans (by decide) hRl⟩) hK hN hP hD hS hA [] [0, 1, 2, 3] rfl (by decide) rfl (by decide) (by decide) rfl hl.1 rfl (Nat.le_of_ble_eq_true rfl) dX5_renew_44 hRc (fun H locs hP hD hS => ?_)
          have hP : va_P D vwCl [(m_h, .inr (5, [.ref m_now_a, .ref m_tape_a, .int m_typed, .int m_place, .int m_isFault, .ref m_read_a, .ref m_heard_a, .ref m_undone_a, .int m_undos, .ref m_aside_a, .ref m_kept_a, .int m_keptUndos, .int m_isKept, .ref m_lanes_a, .ref m_sizes_a, .ref m_items_a, .ref m_moved_a])), (m_now_a, .inl (cI, 65, .inl m_now)), (m_heard_a, .inl (cI, 8, .inl m_heard)), (m_aside_a, .inl (cI, 65, .inl m_aside))] H := hP
          have hD : va_D A [(m_h, .inr (5, [.ref m_now_a, .ref m_tape_a, .int m_typed, .int m_place, .int m_isFault, .ref m_read_a, .ref m_heard_a, .ref m_undone_a, .int m_undos, .ref m_aside_a, .ref m_kept_a, .int m_keptUndos, .int m_isKept, .ref m_lanes_a, .ref m_sizes_a, .ref m_items_a, .ref m_moved_a])), (m_now_a, .inl (cI, 65, .inl m_now)), (m_heard_a, .inl (cI, 8, .inl m_heard)), (m_aside_a, .inl (cI, 65, .inl m_aside))] := hD
          refine lv_if_ne (tgt := 52) hx hb dX5_renew_47 (by decide) (fun c15 => ?_) (fun c15 => ?_)
          · replace hM := sx_iff c15 hM
            refine lv_aload_n hx hb dX5_renew_52 rfl (lv_at hl 0 rfl) ?_
            obtain ⟨w16, hc17, hM⟩ := sx_c1_s hM
            refine sx_vV (As := []) (rest := []) (wc := [(m_h, .inr (5, [.ref m_now_a, .ref m_tape_a, .int m_typed, .int m_place, .int m_isFault, .ref m_read_a, .ref m_heard_a, .ref m_undone_a, .int m_undos, .ref m_aside_a, .ref m_kept_a, .int m_keptUndos, .int m_isKept, .ref m_lanes_a, .ref m_sizes_a, .ref m_items_a, .ref m_moved_a])), (m_now_a, .inl (cI, 65, .inl m_now)), (m_aside_a, .inl (cI, 65, .inl m_aside))]) (wr := [(m_heard_a, .inl (cI, 8, .inl m_heard))]) (w1 := [(m_h, .inr (5, [.ref m_now_a, .ref m_tape_a, .int m_typed, .int m_place, .int m_isFault, .ref m_read_a, .ref m_heard_a, .ref m_undone_a, .int m_undos, .ref m_aside_a, .ref m_kept_a, .int m_keptUndos, .int m_isKept, .ref m_lanes_a, .ref m_sizes_a, .ref m_items_a, .ref m_moved_a])), (m_now_a, .inl (cI, 65, .inl m_now)), (m_aside_a, .inl (cI, 65, .inl w16))]) ⟨hx, hb, hml, hown, hts⟩ (mtX5_asides l D cI cJ cS H.size m_h m_now_a m_tape_a m_read_a m_heard_a m_undone_a m_aside_a m_kept_a m_lanes_a m_sizes_a m_items_a m_moved_a m_now m_typed m_place m_isFault m_undos m_aside m_keptUndos m_isKept F w16 hc17) (cwV 0 hts gX5_renew_X5_asides rfl rfl rfl (by decide +kernel) ⟨Nat.le_trans (by decide) hRf, Nat.le_trans (by decide) hRl⟩) hK hN hP hD hS hA [0, 1, 3] [2] rfl (by decide) rfl (by decide) (by decide) rfl rfl rfl rfl hl.1 rfl (Nat.le_of_ble_eq_true rfl) dX5_renew_53 hRc (fun H locs hP hD hS => ?_)
            have hP : va_P D vwCl [(m_heard_a, .inl (cI, 8, .inl m_heard)), (m_h, .inr (5, [.ref m_now_a, .ref m_tape_a, .int m_typed, .int m_place, .int m_isFault, .ref m_read_a, .ref m_heard_a, .ref m_undone_a, .int m_undos, .ref m_aside_a, .ref m_kept_a, .int m_keptUndos, .int m_isKept, .ref m_lanes_a, .ref m_sizes_a, .ref m_items_a, .ref m_moved_a])), (m_now_a, .inl (cI, 65, .inl m_now)), (m_aside_a, .inl (cI, 65, .inl w16))] H := hP
            have hD : va_D A [(m_heard_a, .inl (cI, 8, .inl m_heard)), (m_h, .inr (5, [.ref m_now_a, .ref m_tape_a, .int m_typed, .int m_place, .int m_isFault, .ref m_read_a, .ref m_heard_a, .ref m_undone_a, .int m_undos, .ref m_aside_a, .ref m_kept_a, .int m_keptUndos, .int m_isKept, .ref m_lanes_a, .ref m_sizes_a, .ref m_items_a, .ref m_moved_a])), (m_now_a, .inl (cI, 65, .inl m_now)), (m_aside_a, .inl (cI, 65, .inl w16))] := hD
            refine lv_aload_n hx hb dX5_renew_56 rfl (lv_at hl 0 rfl) ?_
            refine lv_iload_n hx hb dX5_renew_57 rfl (lv_at hl 1 rfl) ?_
            obtain ⟨r18, hc19, hM⟩ := sx_c1_s hM
            refine sx_iV (As := [.int a1]) (rest := []) (wc := [(m_h, .inr (5, [.ref m_now_a, .ref m_tape_a, .int m_typed, .int m_place, .int m_isFault, .ref m_read_a, .ref m_heard_a, .ref m_undone_a, .int m_undos, .ref m_aside_a, .ref m_kept_a, .int m_keptUndos, .int m_isKept, .ref m_lanes_a, .ref m_sizes_a, .ref m_items_a, .ref m_moved_a])), (m_now_a, .inl (cI, 65, .inl m_now))]) (wr := [(m_heard_a, .inl (cI, 8, .inl m_heard)), (m_aside_a, .inl (cI, 65, .inl w16))]) (w1 := [(m_h, .inr (5, [.ref m_now_a, .ref m_tape_a, .int m_typed, .int m_place, .int m_isFault, .ref m_read_a, .ref m_heard_a, .ref m_undone_a, .int m_undos, .ref m_aside_a, .ref m_kept_a, .int m_keptUndos, .int m_isKept, .ref m_lanes_a, .ref m_sizes_a, .ref m_items_a, .ref m_moved_a])), (m_now_a, .inl (cI, 65, .inl m_now))]) ⟨hx, hb, hml, hown, hts⟩ (mtX5_who l D cI cJ cS H.size m_h m_now_a m_tape_a m_read_a m_heard_a m_undone_a m_aside_a m_kept_a m_lanes_a m_sizes_a m_items_a m_moved_a m_now m_typed m_place m_isFault m_undos m_keptUndos m_isKept a1 F r18 hc19) (cwV 1 hts gX5_renew_X5_who rfl rfl rfl (by decide +kernel) ⟨Nat.le_trans (by decide) hRf, Nat.le_trans (by decide) hRl⟩) hK hN hP hD hS hA [1, 2] [0, 3] rfl (by decide) rfl (by decide) (by decide) rfl rfl rfl rfl hl.1 rfl (Nat.le_of_ble_eq_true rfl) dX5_renew_58 hRc (fun H locs hP hD hS => ?_)
            have hP : va_P D vwCl [(m_heard_a, .inl (cI, 8, .inl m_heard)), (m_aside_a, .inl (cI, 65, .inl w16)), (m_h, .inr (5, [.ref m_now_a, .ref m_tape_a, .int m_typed, .int m_place, .int m_isFault, .ref m_read_a, .ref m_heard_a, .ref m_undone_a, .int m_undos, .ref m_aside_a, .ref m_kept_a, .int m_keptUndos, .int m_isKept, .ref m_lanes_a, .ref m_sizes_a, .ref m_items_a, .ref m_moved_a])), (m_now_a, .inl (cI, 65, .inl m_now))] H := hP
            have hD : va_D A [(m_heard_a, .inl (cI, 8, .inl m_heard)), (m_aside_a, .inl (cI, 65, .inl w16)), (m_h, .inr (5, [.ref m_now_a, .ref m_tape_a, .int m_typed, .int m_place, .int m_isFault, .ref m_read_a, .ref m_heard_a, .ref m_undone_a, .int m_undos, .ref m_aside_a, .ref m_kept_a, .int m_keptUndos, .int m_isKept, .ref m_lanes_a, .ref m_sizes_a, .ref m_items_a, .ref m_moved_a])), (m_now_a, .inl (cI, 65, .inl m_now))] := hD
            refine lv_istore (lv' := [(6, .int r18), (0, .ref m_h), (1, .int a1), (2, .int a2), (3, .int a3), (4, .int a4), (5, .int a5)]) hx hb dX5_renew_61 hl (by decide) rfl (fun ls hl => ?_)
            refine lv_bipush (v := -4) hx hb dX5_renew_63 (by decide) ?_
            refine lv_istore (lv' := [(7, .int (-4 : Int32)), (6, .int r18), (0, .ref m_h), (1, .int a1), (2, .int a2), (3, .int a3), (4, .int a4), (5, .int a5)]) hx hb dX5_renew_65 hl (by decide) rfl (fun ls hl => ?_)
            refine lv_iconst (v := 0) hx hb dX5_renew_67 (by decide) ?_
            refine lv_istore (lv' := [(8, .int (0 : Int32)), (7, .int (-4 : Int32)), (6, .int r18), (0, .ref m_h), (1, .int a1), (2, .int a2), (3, .int a3), (4, .int a4), (5, .int a5)]) hx hb dX5_renew_68 hl (by decide) rfl (fun ls hl => ?_)
            obtain ⟨k_207, ek_207, hM⟩ := sx_lt_s hM
            have hk_207 : ∀ (x20 : Int32) (z21 : Nat → Int32) (z22 : Nat → Int32) (H : Heap) (locs : List Loc) (ls : Array Slot), k_207 x20 z21 z22 = some (r0, w_m_now, w_m_heard, w_m_aside) → lv_has ls 10 [(5, .int a5), (7, .int x20)] → va_P D vwCl [(m_heard_a, .inl (cI, 8, .inl z22)), (m_aside_a, .inl (cI, 65, .inl w16)), (m_h, .inr (5, [.ref m_now_a, .ref m_tape_a, .int m_typed, .int m_place, .int m_isFault, .ref m_read_a, .ref m_heard_a, .ref m_undone_a, .int m_undos, .ref m_aside_a, .ref m_kept_a, .int m_keptUndos, .int m_isKept, .ref m_lanes_a, .ref m_sizes_a, .ref m_items_a, .ref m_moved_a])), (m_now_a, .inl (cI, 65, .inl z21))] H → va_D A [(m_heard_a, .inl (cI, 8, .inl z22)), (m_aside_a, .inl (cI, 65, .inl w16)), (m_h, .inr (5, [.ref m_now_a, .ref m_tape_a, .int m_typed, .int m_place, .int m_isFault, .ref m_read_a, .ref m_heard_a, .ref m_undone_a, .int m_undos, .ref m_aside_a, .ref m_kept_a, .int m_keptUndos, .int m_isKept, .ref m_lanes_a, .ref m_sizes_a, .ref m_items_a, .ref m_moved_a])), (m_now_a, .inl (cI, 65, .inl z21))] → va_S A H0 H locs → W p l e R s m args below meth c H locs cells slots Q (F0 m 207 ls ([])) := by
              intro x20 z21 z22 H locs ls hM hl hP hD hS
              rw [ek_207] at hM
              refine lv_iload hx hb dX5_renew_207 (lv_at hl 0 rfl) ?_
              refine lv_iconst (v := 1) hx hb dX5_renew_209 (by decide) ?_
              refine lv_icmp_eq (tgt := 220) hx hb dX5_renew_210 (by decide) (fun c23 => ?_) (fun c23 => ?_)
              · replace hM := sx_ift c23 hM
                refine lv_iload hx hb dX5_renew_220 (lv_at hl 1 rfl) ?_
                refine lv_goto (tgt := 230) hx hb dX5_renew_222 (by decide) ?_
                obtain ⟨rfl, rfl, rfl, rfl⟩ := sx_o4 hM
                exact hret _ _ _ _ dX5_renew_230 (hP.sub [2, 3, 0, 1] rfl) (hD.sub [2, 3, 0, 1] (by decide) rfl) hS
              · replace hM := sx_iff c23 hM
                refine lv_iload hx hb dX5_renew_213 (lv_at hl 1 rfl) ?_
                refine lv_bipush (v := -4) hx hb dX5_renew_215 (by decide) ?_
                refine lv_icmp_ne (tgt := 225) hx hb dX5_renew_217 (by decide) (fun c24 => ?_) (fun c24 => ?_)
                · replace hM := sx_iff c24 hM
                  refine lv_iload hx hb dX5_renew_225 (lv_at hl 1 rfl) ?_
                  obtain ⟨r25, hc26, hM⟩ := sx_c1_s hM
                  refine sx_iS (As := [.int x20]) (rest := []) (wc := []) (wr := [(m_heard_a, .inl (cI, 8, .inl z22)), (m_aside_a, .inl (cI, 65, .inl w16)), (m_h, .inr (5, [.ref m_now_a, .ref m_tape_a, .int m_typed, .int m_place, .int m_isFault, .ref m_read_a, .ref m_heard_a, .ref m_undone_a, .int m_undos, .ref m_aside_a, .ref m_kept_a, .int m_keptUndos, .int m_isKept, .ref m_lanes_a, .ref m_sizes_a, .ref m_items_a, .ref m_moved_a])), (m_now_a, .inl (cI, 65, .inl z21))]) (w1 := []) ⟨hx, hb, hml, hown, hts⟩ (mtX5_many l D cI cJ cS H.size x20 F r25 hc26) (va_cwS 1 hts gX5_renew_X5_many rfl rfl rfl (by decide +kernel) ⟨Nat.le_trans (by decide) hRf, Nat.le_trans (by decide) hRl⟩) hK hN hP hD hS hA [] [0, 1, 2, 3] rfl (by decide) rfl (by decide) (by decide) rfl hl.1 rfl (Nat.le_of_ble_eq_true rfl) dX5_renew_227 hRc (fun H locs hP hD hS => ?_)
                  have hP : va_P D vwCl [(m_heard_a, .inl (cI, 8, .inl z22)), (m_aside_a, .inl (cI, 65, .inl w16)), (m_h, .inr (5, [.ref m_now_a, .ref m_tape_a, .int m_typed, .int m_place, .int m_isFault, .ref m_read_a, .ref m_heard_a, .ref m_undone_a, .int m_undos, .ref m_aside_a, .ref m_kept_a, .int m_keptUndos, .int m_isKept, .ref m_lanes_a, .ref m_sizes_a, .ref m_items_a, .ref m_moved_a])), (m_now_a, .inl (cI, 65, .inl z21))] H := hP
                  have hD : va_D A [(m_heard_a, .inl (cI, 8, .inl z22)), (m_aside_a, .inl (cI, 65, .inl w16)), (m_h, .inr (5, [.ref m_now_a, .ref m_tape_a, .int m_typed, .int m_place, .int m_isFault, .ref m_read_a, .ref m_heard_a, .ref m_undone_a, .int m_undos, .ref m_aside_a, .ref m_kept_a, .int m_keptUndos, .int m_isKept, .ref m_lanes_a, .ref m_sizes_a, .ref m_items_a, .ref m_moved_a])), (m_now_a, .inl (cI, 65, .inl z21))] := hD
                  obtain ⟨rfl, rfl, rfl, rfl⟩ := sx_o4 hM
                  exact hret _ _ _ _ dX5_renew_230 (hP.sub [2, 3, 0, 1] rfl) (hD.sub [2, 3, 0, 1] (by decide) rfl) hS
                · replace hM := sx_ift c24 hM
                  refine lv_iload hx hb dX5_renew_220 (lv_at hl 1 rfl) ?_
                  refine lv_goto (tgt := 230) hx hb dX5_renew_222 (by decide) ?_
                  obtain ⟨rfl, rfl, rfl, rfl⟩ := sx_o4 hM
                  exact hret _ _ _ _ dX5_renew_230 (hP.sub [2, 3, 0, 1] rfl) (hD.sub [2, 3, 0, 1] (by decide) rfl) hS
            have lp_70 : ∀ (n : Nat) (x27 : Int32) (x28 : Int32) (z29 : Nat → Int32) (z30 : Nat → Int32) (H : Heap) (locs : List Loc) (ls : Array Slot), sx_lp4 (bdX5_renew_70 F a1 a2 a3 a4 r18 w16 k_207) n x27 x28 z29 z30 = some (r0, w_m_now, w_m_heard, w_m_aside) → lv_has ls 10 [(0, .ref m_h), (1, .int a1), (2, .int a2), (3, .int a3), (4, .int a4), (5, .int a5), (6, .int r18), (7, .int x27), (8, .int x28)] → va_P D vwCl [(m_heard_a, .inl (cI, 8, .inl z30)), (m_aside_a, .inl (cI, 65, .inl w16)), (m_h, .inr (5, [.ref m_now_a, .ref m_tape_a, .int m_typed, .int m_place, .int m_isFault, .ref m_read_a, .ref m_heard_a, .ref m_undone_a, .int m_undos, .ref m_aside_a, .ref m_kept_a, .int m_keptUndos, .int m_isKept, .ref m_lanes_a, .ref m_sizes_a, .ref m_items_a, .ref m_moved_a])), (m_now_a, .inl (cI, 65, .inl z29))] H → va_D A [(m_heard_a, .inl (cI, 8, .inl z30)), (m_aside_a, .inl (cI, 65, .inl w16)), (m_h, .inr (5, [.ref m_now_a, .ref m_tape_a, .int m_typed, .int m_place, .int m_isFault, .ref m_read_a, .ref m_heard_a, .ref m_undone_a, .int m_undos, .ref m_aside_a, .ref m_kept_a, .int m_keptUndos, .int m_isKept, .ref m_lanes_a, .ref m_sizes_a, .ref m_items_a, .ref m_moved_a])), (m_now_a, .inl (cI, 65, .inl z29))] → va_S A H0 H locs → W p l e R s m args below meth c H locs cells slots Q (F0 m 70 ls ([])) := by
              intro n
              induction n with
              | zero => intro x27 x28 z29 z30 H locs ls hM; exact (sx_lp4_0 hM).elim
              | succ n ih =>
                intro x27 x28 z29 z30 H locs ls hM hl hP hD hS
                have hM : bdX5_renew_70 F a1 a2 a3 a4 r18 w16 k_207 (sx_lp4 (bdX5_renew_70 F a1 a2 a3 a4 r18 w16 k_207) n) x27 x28 z29 z30 = some (r0, w_m_now, w_m_heard, w_m_aside) := hM
                generalize sx_lp4 (bdX5_renew_70 F a1 a2 a3 a4 r18 w16 k_207) n = r_70 at hM ih
                unfold bdX5_renew_70 at hM
                refine lv_iload hx hb dX5_renew_70 (lv_at hl 8 rfl) ?_
                refine lv_iload hx hb dX5_renew_72 (lv_at hl 6 rfl) ?_
                refine lv_icmp_gt (tgt := 207) hx hb dX5_renew_74 (by decide) (fun c31 => ?_) (fun c31 => ?_)
                · replace hM := sx_ift c31 hM
                  exact hk_207 x27 z29 z30 _ _ _ hM (lv_sub hl [5, 7] rfl) (hP.sub [0, 1, 2, 3] rfl) (hD.sub [0, 1, 2, 3] (by decide) rfl) hS
                · replace hM := sx_iff c31 hM
                  refine lv_iload hx hb dX5_renew_77 (lv_at hl 8 rfl) ?_
                  refine lv_iload hx hb dX5_renew_79 (lv_at hl 6 rfl) ?_
                  refine lv_iconst (v := -1) hx hb dX5_renew_81 (by decide) ?_
                  refine lv_ixor hx hb dX5_renew_82 ?_
                  refine lv_iand hx hb dX5_renew_83 ?_
                  obtain ⟨k_201, ek_201, hM⟩ := sx_lt_s hM
                  have hk_201 : ∀ (x32 : Int32) (z33 : Nat → Int32) (z34 : Nat → Int32) (H : Heap) (locs : List Loc) (ls : Array Slot), k_201 x32 z33 z34 = some (r0, w_m_now, w_m_heard, w_m_aside) → lv_has ls 10 [(0, .ref m_h), (1, .int a1), (2, .int a2), (3, .int a3), (4, .int a4), (5, .int a5), (6, .int r18), (7, .int x32), (8, .int x28)] → va_P D vwCl [(m_heard_a, .inl (cI, 8, .inl z34)), (m_aside_a, .inl (cI, 65, .inl w16)), (m_h, .inr (5, [.ref m_now_a, .ref m_tape_a, .int m_typed, .int m_place, .int m_isFault, .ref m_read_a, .ref m_heard_a, .ref m_undone_a, .int m_undos, .ref m_aside_a, .ref m_kept_a, .int m_keptUndos, .int m_isKept, .ref m_lanes_a, .ref m_sizes_a, .ref m_items_a, .ref m_moved_a])), (m_now_a, .inl (cI, 65, .inl z33))] H → va_D A [(m_heard_a, .inl (cI, 8, .inl z34)), (m_aside_a, .inl (cI, 65, .inl w16)), (m_h, .inr (5, [.ref m_now_a, .ref m_tape_a, .int m_typed, .int m_place, .int m_isFault, .ref m_read_a, .ref m_heard_a, .ref m_undone_a, .int m_undos, .ref m_aside_a, .ref m_kept_a, .int m_keptUndos, .int m_isKept, .ref m_lanes_a, .ref m_sizes_a, .ref m_items_a, .ref m_moved_a])), (m_now_a, .inl (cI, 65, .inl z33))] → va_S A H0 H locs → W p l e R s m args below meth c H locs cells slots Q (F0 m 201 ls ([])) := by
                    intro x32 z33 z34 H locs ls hM hl hP hD hS
                    rw [ek_201] at hM
                    obtain ⟨v35, ev35, hM⟩ := sx_nm_s hM
                    refine lv_iinc (v := v35) (lv' := [(8, .int v35), (0, .ref m_h), (1, .int a1), (2, .int a2), (3, .int a3), (4, .int a4), (5, .int a5), (6, .int r18), (7, .int x32)]) hx hb dX5_renew_201 hl (k := 8) rfl (by rw [ev35]; rfl) (by decide) rfl (fun ls hl => ?_)
                    refine lv_goto (tgt := 70) hx hb dX5_renew_204 (by decide) ?_
                    exact ih x32 v35 z33 z34 _ _ _ hM (lv_sub hl [1, 2, 3, 4, 5, 6, 7, 8, 0] rfl) (hP.sub [0, 1, 2, 3] rfl) (hD.sub [0, 1, 2, 3] (by decide) rfl) hS
                  refine lv_if_ne (tgt := 201) hx hb dX5_renew_84 (by decide) (fun c36 => ?_) (fun c36 => ?_)
                  · replace hM := sx_iff c36 hM
                    exact hk_201 x27 z29 z30 _ _ _ hM (lv_sub hl [0, 1, 2, 3, 4, 5, 6, 7, 8] rfl) (hP.sub [0, 1, 2, 3] rfl) (hD.sub [0, 1, 2, 3] (by decide) rfl) hS
                  · replace hM := sx_ift c36 hM
                    refine lv_iload hx hb dX5_renew_87 (lv_at hl 7 rfl) ?_
                    refine lv_bipush (v := -4) hx hb dX5_renew_89 (by decide) ?_
                    obtain ⟨k_107, ek_107, hM⟩ := sx_lt_s hM
                    have hk_107 : ∀ (H : Heap) (locs : List Loc) (ls : Array Slot), k_107 = some (r0, w_m_now, w_m_heard, w_m_aside) → lv_has ls 10 [(0, .ref m_h), (1, .int a1), (2, .int a2), (3, .int a3), (4, .int a4), (5, .int a5), (6, .int r18), (7, .int x27), (8, .int x28)] → va_P D vwCl [(m_heard_a, .inl (cI, 8, .inl z30)), (m_aside_a, .inl (cI, 65, .inl w16)), (m_h, .inr (5, [.ref m_now_a, .ref m_tape_a, .int m_typed, .int m_place, .int m_isFault, .ref m_read_a, .ref m_heard_a, .ref m_undone_a, .int m_undos, .ref m_aside_a, .ref m_kept_a, .int m_keptUndos, .int m_isKept, .ref m_lanes_a, .ref m_sizes_a, .ref m_items_a, .ref m_moved_a])), (m_now_a, .inl (cI, 65, .inl z29))] H → va_D A [(m_heard_a, .inl (cI, 8, .inl z30)), (m_aside_a, .inl (cI, 65, .inl w16)), (m_h, .inr (5, [.ref m_now_a, .ref m_tape_a, .int m_typed, .int m_place, .int m_isFault, .ref m_read_a, .ref m_heard_a, .ref m_undone_a, .int m_undos, .ref m_aside_a, .ref m_kept_a, .int m_keptUndos, .int m_isKept, .ref m_lanes_a, .ref m_sizes_a, .ref m_items_a, .ref m_moved_a])), (m_now_a, .inl (cI, 65, .inl z29))] → va_S A H0 H locs → W p l e R s m args below meth c H locs cells slots Q (F0 m 107 ls ([])) := by
                      intro H locs ls hM hl hP hD hS
                      rw [ek_107] at hM
                      refine lv_iconst (v := 0) hx hb dX5_renew_107 (by decide) ?_
                      refine lv_istore (lv' := [(9, .int (0 : Int32)), (0, .ref m_h), (1, .int a1), (2, .int a2), (3, .int a3), (4, .int a4), (5, .int a5), (6, .int r18), (7, .int x27), (8, .int x28)]) hx hb dX5_renew_108 hl (by decide) rfl (fun ls hl => ?_)
                      obtain ⟨k_169, ek_169, hM⟩ := sx_lt_s hM
                      have hk_169 : ∀ (z37 : Nat → Int32) (H : Heap) (locs : List Loc) (ls : Array Slot), k_169 z37 = some (r0, w_m_now, w_m_heard, w_m_aside) → lv_has ls 10 [(0, .ref m_h), (1, .int a1), (2, .int a2), (3, .int a3), (4, .int a4), (5, .int a5), (6, .int r18), (7, .int x27), (8, .int x28)] → va_P D vwCl [(m_heard_a, .inl (cI, 8, .inl z30)), (m_aside_a, .inl (cI, 65, .inl w16)), (m_h, .inr (5, [.ref m_now_a, .ref m_tape_a, .int m_typed, .int m_place, .int m_isFault, .ref m_read_a, .ref m_heard_a, .ref m_undone_a, .int m_undos, .ref m_aside_a, .ref m_kept_a, .int m_keptUndos, .int m_isKept, .ref m_lanes_a, .ref m_sizes_a, .ref m_items_a, .ref m_moved_a])), (m_now_a, .inl (cI, 65, .inl z37))] H → va_D A [(m_heard_a, .inl (cI, 8, .inl z30)), (m_aside_a, .inl (cI, 65, .inl w16)), (m_h, .inr (5, [.ref m_now_a, .ref m_tape_a, .int m_typed, .int m_place, .int m_isFault, .ref m_read_a, .ref m_heard_a, .ref m_undone_a, .int m_undos, .ref m_aside_a, .ref m_kept_a, .int m_keptUndos, .int m_isKept, .ref m_lanes_a, .ref m_sizes_a, .ref m_items_a, .ref m_moved_a])), (m_now_a, .inl (cI, 65, .inl z37))] → va_S A H0 H locs → W p l e R s m args below meth c H locs cells slots Q (F0 m 169 ls ([])) := by
                        intro z37 H locs ls hM hl hP hD hS
                        rw [ek_169] at hM
                        refine lv_aload_n hx hb dX5_renew_169 rfl (lv_at hl 0 rfl) ?_
                        refine lv_iload_n hx hb dX5_renew_170 rfl (lv_at hl 2 rfl) ?_
                        refine lv_iload_n hx hb dX5_renew_171 rfl (lv_at hl 3 rfl) ?_
                        obtain ⟨w38, w39, hc40, hM⟩ := sx_c2_s hM
                        refine sx_vV (As := [.int a2, .int a3]) (rest := []) (wc := [(m_h, .inr (5, [.ref m_now_a, .ref m_tape_a, .int m_typed, .int m_place, .int m_isFault, .ref m_read_a, .ref m_heard_a, .ref m_undone_a, .int m_undos, .ref m_aside_a, .ref m_kept_a, .int m_keptUndos, .int m_isKept, .ref m_lanes_a, .ref m_sizes_a, .ref m_items_a, .ref m_moved_a])), (m_now_a, .inl (cI, 65, .inl z37)), (m_heard_a, .inl (cI, 8, .inl z30))]) (wr := [(m_aside_a, .inl (cI, 65, .inl w16))]) (w1 := [(m_h, .inr (5, [.ref m_now_a, .ref m_tape_a, .int m_typed, .int m_place, .int m_isFault, .ref m_read_a, .ref m_heard_a, .ref m_undone_a, .int m_undos, .ref m_aside_a, .ref m_kept_a, .int m_keptUndos, .int m_isKept, .ref m_lanes_a, .ref m_sizes_a, .ref m_items_a, .ref m_moved_a])), (m_now_a, .inl (cI, 65, .inl w38)), (m_heard_a, .inl (cI, 8, .inl w39))]) ⟨hx, hb, hml, hown, hts⟩ (mtX5_goesOn l D cI cJ cS H.size m_h m_now_a m_tape_a m_read_a m_heard_a m_undone_a m_aside_a m_kept_a m_lanes_a m_sizes_a m_items_a m_moved_a z37 m_typed m_place m_isFault z30 m_undos m_keptUndos m_isKept a2 a3 F w38 w39 hc40) (cwV 2 hts gX5_renew_X5_goesOn rfl rfl rfl (by decide +kernel) ⟨Nat.le_trans (by decide) hRf, Nat.le_trans (by decide) hRl⟩) hK hN hP hD hS hA [2, 3, 0] [1] rfl (by decide) rfl (by decide) (by decide) rfl rfl rfl rfl hl.1 rfl (Nat.le_of_ble_eq_true rfl) dX5_renew_172 hRc (fun H locs hP hD hS => ?_)
                        have hP : va_P D vwCl [(m_aside_a, .inl (cI, 65, .inl w16)), (m_h, .inr (5, [.ref m_now_a, .ref m_tape_a, .int m_typed, .int m_place, .int m_isFault, .ref m_read_a, .ref m_heard_a, .ref m_undone_a, .int m_undos, .ref m_aside_a, .ref m_kept_a, .int m_keptUndos, .int m_isKept, .ref m_lanes_a, .ref m_sizes_a, .ref m_items_a, .ref m_moved_a])), (m_now_a, .inl (cI, 65, .inl w38)), (m_heard_a, .inl (cI, 8, .inl w39))] H := hP
                        have hD : va_D A [(m_aside_a, .inl (cI, 65, .inl w16)), (m_h, .inr (5, [.ref m_now_a, .ref m_tape_a, .int m_typed, .int m_place, .int m_isFault, .ref m_read_a, .ref m_heard_a, .ref m_undone_a, .int m_undos, .ref m_aside_a, .ref m_kept_a, .int m_keptUndos, .int m_isKept, .ref m_lanes_a, .ref m_sizes_a, .ref m_items_a, .ref m_moved_a])), (m_now_a, .inl (cI, 65, .inl w38)), (m_heard_a, .inl (cI, 8, .inl w39))] := hD
                        refine lv_aload_n hx hb dX5_renew_175 rfl (lv_at hl 0 rfl) ?_
                        refine lv_iload_n hx hb dX5_renew_176 rfl (lv_at hl 1 rfl) ?_
                        obtain ⟨r41, hc42, hM⟩ := sx_c1_s hM
                        refine sx_iV (As := [.int a1]) (rest := []) (wc := [(m_h, .inr (5, [.ref m_now_a, .ref m_tape_a, .int m_typed, .int m_place, .int m_isFault, .ref m_read_a, .ref m_heard_a, .ref m_undone_a, .int m_undos, .ref m_aside_a, .ref m_kept_a, .int m_keptUndos, .int m_isKept, .ref m_lanes_a, .ref m_sizes_a, .ref m_items_a, .ref m_moved_a])), (m_now_a, .inl (cI, 65, .inl w38))]) (wr := [(m_aside_a, .inl (cI, 65, .inl w16)), (m_heard_a, .inl (cI, 8, .inl w39))]) (w1 := [(m_h, .inr (5, [.ref m_now_a, .ref m_tape_a, .int m_typed, .int m_place, .int m_isFault, .ref m_read_a, .ref m_heard_a, .ref m_undone_a, .int m_undos, .ref m_aside_a, .ref m_kept_a, .int m_keptUndos, .int m_isKept, .ref m_lanes_a, .ref m_sizes_a, .ref m_items_a, .ref m_moved_a])), (m_now_a, .inl (cI, 65, .inl w38))]) ⟨hx, hb, hml, hown, hts⟩ (mtX5_who l D cI cJ cS H.size m_h m_now_a m_tape_a m_read_a m_heard_a m_undone_a m_aside_a m_kept_a m_lanes_a m_sizes_a m_items_a m_moved_a w38 m_typed m_place m_isFault m_undos m_keptUndos m_isKept a1 F r41 hc42) (cwV 1 hts gX5_renew_X5_who rfl rfl rfl (by decide +kernel) ⟨Nat.le_trans (by decide) hRf, Nat.le_trans (by decide) hRl⟩) hK hN hP hD hS hA [1, 2] [0, 3] rfl (by decide) rfl (by decide) (by decide) rfl rfl rfl rfl hl.1 rfl (Nat.le_of_ble_eq_true rfl) dX5_renew_177 hRc (fun H locs hP hD hS => ?_)
                        have hP : va_P D vwCl [(m_aside_a, .inl (cI, 65, .inl w16)), (m_heard_a, .inl (cI, 8, .inl w39)), (m_h, .inr (5, [.ref m_now_a, .ref m_tape_a, .int m_typed, .int m_place, .int m_isFault, .ref m_read_a, .ref m_heard_a, .ref m_undone_a, .int m_undos, .ref m_aside_a, .ref m_kept_a, .int m_keptUndos, .int m_isKept, .ref m_lanes_a, .ref m_sizes_a, .ref m_items_a, .ref m_moved_a])), (m_now_a, .inl (cI, 65, .inl w38))] H := hP
                        have hD : va_D A [(m_aside_a, .inl (cI, 65, .inl w16)), (m_heard_a, .inl (cI, 8, .inl w39)), (m_h, .inr (5, [.ref m_now_a, .ref m_tape_a, .int m_typed, .int m_place, .int m_isFault, .ref m_read_a, .ref m_heard_a, .ref m_undone_a, .int m_undos, .ref m_aside_a, .ref m_kept_a, .int m_keptUndos, .int m_isKept, .ref m_lanes_a, .ref m_sizes_a, .ref m_items_a, .ref m_moved_a])), (m_now_a, .inl (cI, 65, .inl w38))] := hD
                        obtain ⟨r43, hc44, hM⟩ := sx_c1_s hM
                        refine sx_iS (As := [.int r41]) (rest := []) (wc := []) (wr := [(m_aside_a, .inl (cI, 65, .inl w16)), (m_heard_a, .inl (cI, 8, .inl w39)), (m_h, .inr (5, [.ref m_now_a, .ref m_tape_a, .int m_typed, .int m_place, .int m_isFault, .ref m_read_a, .ref m_heard_a, .ref m_undone_a, .int m_undos, .ref m_aside_a, .ref m_kept_a, .int m_keptUndos, .int m_isKept, .ref m_lanes_a, .ref m_sizes_a, .ref m_items_a, .ref m_moved_a])), (m_now_a, .inl (cI, 65, .inl w38))]) (w1 := []) ⟨hx, hb, hml, hown, hts⟩ (mtX5_many l D cI cJ cS H.size r41 F r43 hc44) (va_cwS 1 hts gX5_renew_X5_many rfl rfl rfl (by decide +kernel) ⟨Nat.le_trans (by decide) hRf, Nat.le_trans (by decide) hRl⟩) hK hN hP hD hS hA [] [0, 1, 2, 3] rfl (by decide) rfl (by decide) (by decide) rfl hl.1 rfl (Nat.le_of_ble_eq_true rfl) dX5_renew_180 hRc (fun H locs hP hD hS => ?_)
                        have hP : va_P D vwCl [(m_aside_a, .inl (cI, 65, .inl w16)), (m_heard_a, .inl (cI, 8, .inl w39)), (m_h, .inr (5, [.ref m_now_a, .ref m_tape_a, .int m_typed, .int m_place, .int m_isFault, .ref m_read_a, .ref m_heard_a, .ref m_undone_a, .int m_undos, .ref m_aside_a, .ref m_kept_a, .int m_keptUndos, .int m_isKept, .ref m_lanes_a, .ref m_sizes_a, .ref m_items_a, .ref m_moved_a])), (m_now_a, .inl (cI, 65, .inl w38))] H := hP
                        have hD : va_D A [(m_aside_a, .inl (cI, 65, .inl w16)), (m_heard_a, .inl (cI, 8, .inl w39)), (m_h, .inr (5, [.ref m_now_a, .ref m_tape_a, .int m_typed, .int m_place, .int m_isFault, .ref m_read_a, .ref m_heard_a, .ref m_undone_a, .int m_undos, .ref m_aside_a, .ref m_kept_a, .int m_keptUndos, .int m_isKept, .ref m_lanes_a, .ref m_sizes_a, .ref m_items_a, .ref m_moved_a])), (m_now_a, .inl (cI, 65, .inl w38))] := hD
                        refine lv_iload hx hb dX5_renew_183 (lv_at hl 4 rfl) ?_
                        refine lv_icmp_gt (tgt := 193) hx hb dX5_renew_185 (by decide) (fun c45 => ?_) (fun c45 => ?_)
                        · replace hM := sx_ift c45 hM
                          refine lv_iload hx hb dX5_renew_193 (lv_at hl 7 rfl) ?_
                          refine lv_istore (lv' := [(7, .int x27), (0, .ref m_h), (1, .int a1), (2, .int a2), (3, .int a3), (4, .int a4), (5, .int a5), (6, .int r18), (8, .int x28)]) hx hb dX5_renew_195 hl (by decide) rfl (fun ls hl => ?_)
                          refine lv_aload_n hx hb dX5_renew_197 rfl (lv_at hl 1 rfl) ?_
                          obtain ⟨w46, hc47, hM⟩ := sx_c1_s hM
                          refine sx_vV (As := []) (rest := []) (wc := [(m_h, .inr (5, [.ref m_now_a, .ref m_tape_a, .int m_typed, .int m_place, .int m_isFault, .ref m_read_a, .ref m_heard_a, .ref m_undone_a, .int m_undos, .ref m_aside_a, .ref m_kept_a, .int m_keptUndos, .int m_isKept, .ref m_lanes_a, .ref m_sizes_a, .ref m_items_a, .ref m_moved_a])), (m_now_a, .inl (cI, 65, .inl w38)), (m_aside_a, .inl (cI, 65, .inl w16))]) (wr := [(m_heard_a, .inl (cI, 8, .inl w39))]) (w1 := [(m_h, .inr (5, [.ref m_now_a, .ref m_tape_a, .int m_typed, .int m_place, .int m_isFault, .ref m_read_a, .ref m_heard_a, .ref m_undone_a, .int m_undos, .ref m_aside_a, .ref m_kept_a, .int m_keptUndos, .int m_isKept, .ref m_lanes_a, .ref m_sizes_a, .ref m_items_a, .ref m_moved_a])), (m_now_a, .inl (cI, 65, .inl w46)), (m_aside_a, .inl (cI, 65, .inl w16))]) ⟨hx, hb, hml, hown, hts⟩ (mtX5_backs l D cI cJ cS H.size m_h m_now_a m_tape_a m_read_a m_heard_a m_undone_a m_aside_a m_kept_a m_lanes_a m_sizes_a m_items_a m_moved_a w38 m_typed m_place m_isFault m_undos w16 m_keptUndos m_isKept F w46 hc47) (cwV 0 hts gX5_renew_X5_backs rfl rfl rfl (by decide +kernel) ⟨Nat.le_trans (by decide) hRf, Nat.le_trans (by decide) hRl⟩) hK hN hP hD hS hA [2, 3, 0] [1] rfl (by decide) rfl (by decide) (by decide) rfl rfl rfl rfl hl.1 rfl (Nat.le_of_ble_eq_true rfl) dX5_renew_198 hRc (fun H locs hP hD hS => ?_)
                          have hP : va_P D vwCl [(m_heard_a, .inl (cI, 8, .inl w39)), (m_h, .inr (5, [.ref m_now_a, .ref m_tape_a, .int m_typed, .int m_place, .int m_isFault, .ref m_read_a, .ref m_heard_a, .ref m_undone_a, .int m_undos, .ref m_aside_a, .ref m_kept_a, .int m_keptUndos, .int m_isKept, .ref m_lanes_a, .ref m_sizes_a, .ref m_items_a, .ref m_moved_a])), (m_now_a, .inl (cI, 65, .inl w46)), (m_aside_a, .inl (cI, 65, .inl w16))] H := hP
                          have hD : va_D A [(m_heard_a, .inl (cI, 8, .inl w39)), (m_h, .inr (5, [.ref m_now_a, .ref m_tape_a, .int m_typed, .int m_place, .int m_isFault, .ref m_read_a, .ref m_heard_a, .ref m_undone_a, .int m_undos, .ref m_aside_a, .ref m_kept_a, .int m_keptUndos, .int m_isKept, .ref m_lanes_a, .ref m_sizes_a, .ref m_items_a, .ref m_moved_a])), (m_now_a, .inl (cI, 65, .inl w46)), (m_aside_a, .inl (cI, 65, .inl w16))] := hD
                          exact hk_201 x27 w46 w39 _ _ _ hM (lv_sub hl [1, 2, 3, 4, 5, 6, 7, 0, 8] rfl) (hP.sub [0, 3, 1, 2] rfl) (hD.sub [0, 3, 1, 2] (by decide) rfl) hS
                        · replace hM := sx_iff c45 hM
                          refine lv_iload hx hb dX5_renew_188 (lv_at hl 8 rfl) ?_
                          refine lv_goto (tgt := 195) hx hb dX5_renew_190 (by decide) ?_
                          refine lv_istore (lv' := [(7, .int x28), (0, .ref m_h), (1, .int a1), (2, .int a2), (3, .int a3), (4, .int a4), (5, .int a5), (6, .int r18), (8, .int x28)]) hx hb dX5_renew_195 hl (by decide) rfl (fun ls hl => ?_)
                          refine lv_aload_n hx hb dX5_renew_197 rfl (lv_at hl 1 rfl) ?_
                          obtain ⟨w48, hc49, hM⟩ := sx_c1_s hM
                          refine sx_vV (As := []) (rest := []) (wc := [(m_h, .inr (5, [.ref m_now_a, .ref m_tape_a, .int m_typed, .int m_place, .int m_isFault, .ref m_read_a, .ref m_heard_a, .ref m_undone_a, .int m_undos, .ref m_aside_a, .ref m_kept_a, .int m_keptUndos, .int m_isKept, .ref m_lanes_a, .ref m_sizes_a, .ref m_items_a, .ref m_moved_a])), (m_now_a, .inl (cI, 65, .inl w38)), (m_aside_a, .inl (cI, 65, .inl w16))]) (wr := [(m_heard_a, .inl (cI, 8, .inl w39))]) (w1 := [(m_h, .inr (5, [.ref m_now_a, .ref m_tape_a, .int m_typed, .int m_place, .int m_isFault, .ref m_read_a, .ref m_heard_a, .ref m_undone_a, .int m_undos, .ref m_aside_a, .ref m_kept_a, .int m_keptUndos, .int m_isKept, .ref m_lanes_a, .ref m_sizes_a, .ref m_items_a, .ref m_moved_a])), (m_now_a, .inl (cI, 65, .inl w48)), (m_aside_a, .inl (cI, 65, .inl w16))]) ⟨hx, hb, hml, hown, hts⟩ (mtX5_backs l D cI cJ cS H.size m_h m_now_a m_tape_a m_read_a m_heard_a m_undone_a m_aside_a m_kept_a m_lanes_a m_sizes_a m_items_a m_moved_a w38 m_typed m_place m_isFault m_undos w16 m_keptUndos m_isKept F w48 hc49) (cwV 0 hts gX5_renew_X5_backs rfl rfl rfl (by decide +kernel) ⟨Nat.le_trans (by decide) hRf, Nat.le_trans (by decide) hRl⟩) hK hN hP hD hS hA [2, 3, 0] [1] rfl (by decide) rfl (by decide) (by decide) rfl rfl rfl rfl hl.1 rfl (Nat.le_of_ble_eq_true rfl) dX5_renew_198 hRc (fun H locs hP hD hS => ?_)
                          have hP : va_P D vwCl [(m_heard_a, .inl (cI, 8, .inl w39)), (m_h, .inr (5, [.ref m_now_a, .ref m_tape_a, .int m_typed, .int m_place, .int m_isFault, .ref m_read_a, .ref m_heard_a, .ref m_undone_a, .int m_undos, .ref m_aside_a, .ref m_kept_a, .int m_keptUndos, .int m_isKept, .ref m_lanes_a, .ref m_sizes_a, .ref m_items_a, .ref m_moved_a])), (m_now_a, .inl (cI, 65, .inl w48)), (m_aside_a, .inl (cI, 65, .inl w16))] H := hP
                          have hD : va_D A [(m_heard_a, .inl (cI, 8, .inl w39)), (m_h, .inr (5, [.ref m_now_a, .ref m_tape_a, .int m_typed, .int m_place, .int m_isFault, .ref m_read_a, .ref m_heard_a, .ref m_undone_a, .int m_undos, .ref m_aside_a, .ref m_kept_a, .int m_keptUndos, .int m_isKept, .ref m_lanes_a, .ref m_sizes_a, .ref m_items_a, .ref m_moved_a])), (m_now_a, .inl (cI, 65, .inl w48)), (m_aside_a, .inl (cI, 65, .inl w16))] := hD
                          exact hk_201 x28 w48 w39 _ _ _ hM (lv_sub hl [1, 2, 3, 4, 5, 6, 7, 0, 8] rfl) (hP.sub [0, 3, 1, 2] rfl) (hD.sub [0, 3, 1, 2] (by decide) rfl) hS
                      have lp_110 : ∀ (n : Nat) (x50 : Int32) (z51 : Nat → Int32) (H : Heap) (locs : List Loc) (ls : Array Slot), sx_lp2 (bdX5_renew_110 F a1 x28 k_169) n x50 z51 = some (r0, w_m_now, w_m_heard, w_m_aside) → lv_has ls 10 [(0, .ref m_h), (1, .int a1), (2, .int a2), (3, .int a3), (4, .int a4), (5, .int a5), (6, .int r18), (7, .int x27), (8, .int x28), (9, .int x50)] → va_P D vwCl [(m_heard_a, .inl (cI, 8, .inl z30)), (m_aside_a, .inl (cI, 65, .inl w16)), (m_h, .inr (5, [.ref m_now_a, .ref m_tape_a, .int m_typed, .int m_place, .int m_isFault, .ref m_read_a, .ref m_heard_a, .ref m_undone_a, .int m_undos, .ref m_aside_a, .ref m_kept_a, .int m_keptUndos, .int m_isKept, .ref m_lanes_a, .ref m_sizes_a, .ref m_items_a, .ref m_moved_a])), (m_now_a, .inl (cI, 65, .inl z51))] H → va_D A [(m_heard_a, .inl (cI, 8, .inl z30)), (m_aside_a, .inl (cI, 65, .inl w16)), (m_h, .inr (5, [.ref m_now_a, .ref m_tape_a, .int m_typed, .int m_place, .int m_isFault, .ref m_read_a, .ref m_heard_a, .ref m_undone_a, .int m_undos, .ref m_aside_a, .ref m_kept_a, .int m_keptUndos, .int m_isKept, .ref m_lanes_a, .ref m_sizes_a, .ref m_items_a, .ref m_moved_a])), (m_now_a, .inl (cI, 65, .inl z51))] → va_S A H0 H locs → W p l e R s m args below meth c H locs cells slots Q (F0 m 110 ls ([])) := by
                        intro n
                        induction n with
                        | zero => intro x50 z51 H locs ls hM; exact (sx_lp2_0 hM).elim
                        | succ n ih =>
                          intro x50 z51 H locs ls hM hl hP hD hS
                          have hM : bdX5_renew_110 F a1 x28 k_169 (sx_lp2 (bdX5_renew_110 F a1 x28 k_169) n) x50 z51 = some (r0, w_m_now, w_m_heard, w_m_aside) := hM
                          generalize sx_lp2 (bdX5_renew_110 F a1 x28 k_169) n = r_110 at hM ih
                          unfold bdX5_renew_110 at hM
                          refine lv_iload hx hb dX5_renew_110 (lv_at hl 9 rfl) ?_
                          refine lv_aload_n hx hb dX5_renew_112 rfl (lv_at hl 0 rfl) ?_
                          refine va_get (D := D) (ci := 5) (v := .ref m_now_a) (C := RX5) (T := TX5) (N := 17) hx hb hts hin_X5 hown hK hP 2 rfl rfl 0 (by decide) hf_7 (fun _ h9 => h9) rfl dX5_renew_113 ?_
                          refine lv_iconst (v := 0) hx hb dX5_renew_116 (by decide) ?_
                          refine va_iald hx hb hK hP 3 0 rfl rfl (sx_ib_s (by decide)) dX5_renew_117 ?_
                          refine lv_icmp_ge (tgt := 169) hx hb dX5_renew_118 (by decide) (fun c52 => ?_) (fun c52 => ?_)
                          · replace hM := sx_ift c52 hM
                            exact hk_169 z51 _ _ _ hM (lv_sub hl [0, 1, 2, 3, 4, 5, 6, 7, 8] rfl) (hP.sub [0, 1, 2, 3] rfl) (hD.sub [0, 1, 2, 3] (by decide) rfl) hS
                          · replace hM := sx_iff c52 hM
                            refine lv_aload_n hx hb dX5_renew_121 rfl (lv_at hl 0 rfl) ?_
                            refine va_get (D := D) (ci := 5) (v := .ref m_now_a) (C := RX5) (T := TX5) (N := 17) hx hb hts hin_X5 hown hK hP 2 rfl rfl 0 (by decide) hf_7 (fun _ h9 => h9) rfl dX5_renew_122 ?_
                            refine lv_bipush (v := 17) hx hb dX5_renew_125 (by decide) ?_
                            refine lv_bipush (v := 8) hx hb dX5_renew_127 (by decide) ?_
                            refine lv_iload hx hb dX5_renew_129 (lv_at hl 9 rfl) ?_
                            refine lv_imul hx hb dX5_renew_131 ?_
                            refine lv_iadd hx hb dX5_renew_132 ?_
                            refine lv_iload_n hx hb dX5_renew_133 rfl (lv_at hl 1 rfl) ?_
                            refine lv_iadd hx hb dX5_renew_134 ?_
                            refine lv_iload hx hb dX5_renew_135 (lv_at hl 8 rfl) ?_
                            refine lv_iload hx hb dX5_renew_137 (lv_at hl 9 rfl) ?_
                            refine lv_ishr hx hb dX5_renew_139 ?_
                            refine lv_iconst (v := 1) hx hb dX5_renew_140 (by decide) ?_
                            refine lv_iand hx hb dX5_renew_141 ?_
                            refine lv_iconst (v := 1) hx hb dX5_renew_142 (by decide) ?_
                            obtain ⟨k_162, ek_162, hM⟩ := sx_lt_s hM
                            have hk_162 : ∀ (y53 : Int32) (H : Heap) (locs : List Loc) (ls : Array Slot), k_162 y53 = some (r0, w_m_now, w_m_heard, w_m_aside) → lv_has ls 10 [(0, .ref m_h), (1, .int a1), (2, .int a2), (3, .int a3), (4, .int a4), (5, .int a5), (6, .int r18), (7, .int x27), (8, .int x28), (9, .int x50)] → va_P D vwCl [(m_heard_a, .inl (cI, 8, .inl z30)), (m_aside_a, .inl (cI, 65, .inl w16)), (m_h, .inr (5, [.ref m_now_a, .ref m_tape_a, .int m_typed, .int m_place, .int m_isFault, .ref m_read_a, .ref m_heard_a, .ref m_undone_a, .int m_undos, .ref m_aside_a, .ref m_kept_a, .int m_keptUndos, .int m_isKept, .ref m_lanes_a, .ref m_sizes_a, .ref m_items_a, .ref m_moved_a])), (m_now_a, .inl (cI, 65, .inl z51))] H → va_D A [(m_heard_a, .inl (cI, 8, .inl z30)), (m_aside_a, .inl (cI, 65, .inl w16)), (m_h, .inr (5, [.ref m_now_a, .ref m_tape_a, .int m_typed, .int m_place, .int m_isFault, .ref m_read_a, .ref m_heard_a, .ref m_undone_a, .int m_undos, .ref m_aside_a, .ref m_kept_a, .int m_keptUndos, .int m_isKept, .ref m_lanes_a, .ref m_sizes_a, .ref m_items_a, .ref m_moved_a])), (m_now_a, .inl (cI, 65, .inl z51))] → va_S A H0 H locs → W p l e R s m args below meth c H locs cells slots Q (F0 m 162 ls (.int y53 :: .int (((17 : Int32) + ((8 : Int32) * x50)) + a1) :: .ref m_now_a :: [])) := by
                              intro y53 H locs ls hM hl hP hD hS
                              rw [ek_162] at hM
                              obtain ⟨g54, hM⟩ := sx_gd_s hM
                              refine va_iast hx hb hK hP hD hS 3 0 rfl rfl (sx_ib_s g54) dX5_renew_162 (fun H locs hP hD hS => ?_)
                              have hP : va_P D vwCl [(m_heard_a, .inl (cI, 8, .inl z30)), (m_aside_a, .inl (cI, 65, .inl w16)), (m_h, .inr (5, [.ref m_now_a, .ref m_tape_a, .int m_typed, .int m_place, .int m_isFault, .ref m_read_a, .ref m_heard_a, .ref m_undone_a, .int m_undos, .ref m_aside_a, .ref m_kept_a, .int m_keptUndos, .int m_isKept, .ref m_lanes_a, .ref m_sizes_a, .ref m_items_a, .ref m_moved_a])), (m_now_a, .inl (cI, 65, .inl (upd z51 ((((17 : Int32) + ((8 : Int32) * x50)) + a1)).toNatClampNeg y53)))] H := hP
                              have hD : va_D A [(m_heard_a, .inl (cI, 8, .inl z30)), (m_aside_a, .inl (cI, 65, .inl w16)), (m_h, .inr (5, [.ref m_now_a, .ref m_tape_a, .int m_typed, .int m_place, .int m_isFault, .ref m_read_a, .ref m_heard_a, .ref m_undone_a, .int m_undos, .ref m_aside_a, .ref m_kept_a, .int m_keptUndos, .int m_isKept, .ref m_lanes_a, .ref m_sizes_a, .ref m_items_a, .ref m_moved_a])), (m_now_a, .inl (cI, 65, .inl (upd z51 ((((17 : Int32) + ((8 : Int32) * x50)) + a1)).toNatClampNeg y53)))] := hD
                              obtain ⟨v55, ev55, hM⟩ := sx_nm_s hM
                              refine lv_iinc (v := v55) (lv' := [(9, .int v55), (0, .ref m_h), (1, .int a1), (2, .int a2), (3, .int a3), (4, .int a4), (5, .int a5), (6, .int r18), (7, .int x27), (8, .int x28)]) hx hb dX5_renew_163 hl (k := 9) rfl (by rw [ev55]; rfl) (by decide) rfl (fun ls hl => ?_)
                              refine lv_goto (tgt := 110) hx hb dX5_renew_166 (by decide) ?_
                              exact ih v55 (upd z51 ((((17 : Int32) + ((8 : Int32) * x50)) + a1)).toNatClampNeg y53) _ _ _ hM (lv_sub hl [1, 2, 3, 4, 5, 6, 7, 8, 9, 0] rfl) (hP.sub [0, 1, 2, 3] rfl) (hD.sub [0, 1, 2, 3] (by decide) rfl) hS
                            refine lv_icmp_ne (tgt := 155) hx hb dX5_renew_143 (by decide) (fun c56 => ?_) (fun c56 => ?_)
                            · replace hM := sx_iff c56 hM
                              refine lv_aload_n hx hb dX5_renew_155 rfl (lv_at hl 0 rfl) ?_
                              refine lv_iload hx hb dX5_renew_156 (lv_at hl 9 rfl) ?_
                              refine lv_iload_n hx hb dX5_renew_158 rfl (lv_at hl 1 rfl) ?_
                              obtain ⟨r57, hc58, hM⟩ := sx_c1_s hM
                              refine sx_iV (As := [.int x50, .int a1]) (rest := [.int (((17 : Int32) + ((8 : Int32) * x50)) + a1), .ref m_now_a]) (wc := [(m_h, .inr (5, [.ref m_now_a, .ref m_tape_a, .int m_typed, .int m_place, .int m_isFault, .ref m_read_a, .ref m_heard_a, .ref m_undone_a, .int m_undos, .ref m_aside_a, .ref m_kept_a, .int m_keptUndos, .int m_isKept, .ref m_lanes_a, .ref m_sizes_a, .ref m_items_a, .ref m_moved_a])), (m_now_a, .inl (cI, 65, .inl z51))]) (wr := [(m_heard_a, .inl (cI, 8, .inl z30)), (m_aside_a, .inl (cI, 65, .inl w16))]) (w1 := [(m_h, .inr (5, [.ref m_now_a, .ref m_tape_a, .int m_typed, .int m_place, .int m_isFault, .ref m_read_a, .ref m_heard_a, .ref m_undone_a, .int m_undos, .ref m_aside_a, .ref m_kept_a, .int m_keptUndos, .int m_isKept, .ref m_lanes_a, .ref m_sizes_a, .ref m_items_a, .ref m_moved_a])), (m_now_a, .inl (cI, 65, .inl z51))]) ⟨hx, hb, hml, hown, hts⟩ (mtX5_sealOf l D cI cJ cS H.size m_h m_now_a m_tape_a m_read_a m_heard_a m_undone_a m_aside_a m_kept_a m_lanes_a m_sizes_a m_items_a m_moved_a z51 m_typed m_place m_isFault m_undos m_keptUndos m_isKept x50 a1 F r57 hc58) (cwV 2 hts gX5_renew_X5_sealOf rfl rfl rfl (by decide +kernel) ⟨Nat.le_trans (by decide) hRf, Nat.le_trans (by decide) hRl⟩) hK hN hP hD hS hA [2, 3] [0, 1] rfl (by decide) rfl (by decide) (by decide) rfl rfl rfl rfl hl.1 rfl (Nat.le_of_ble_eq_true rfl) dX5_renew_159 hRc (fun H locs hP hD hS => ?_)
                              have hP : va_P D vwCl [(m_heard_a, .inl (cI, 8, .inl z30)), (m_aside_a, .inl (cI, 65, .inl w16)), (m_h, .inr (5, [.ref m_now_a, .ref m_tape_a, .int m_typed, .int m_place, .int m_isFault, .ref m_read_a, .ref m_heard_a, .ref m_undone_a, .int m_undos, .ref m_aside_a, .ref m_kept_a, .int m_keptUndos, .int m_isKept, .ref m_lanes_a, .ref m_sizes_a, .ref m_items_a, .ref m_moved_a])), (m_now_a, .inl (cI, 65, .inl z51))] H := hP
                              have hD : va_D A [(m_heard_a, .inl (cI, 8, .inl z30)), (m_aside_a, .inl (cI, 65, .inl w16)), (m_h, .inr (5, [.ref m_now_a, .ref m_tape_a, .int m_typed, .int m_place, .int m_isFault, .ref m_read_a, .ref m_heard_a, .ref m_undone_a, .int m_undos, .ref m_aside_a, .ref m_kept_a, .int m_keptUndos, .int m_isKept, .ref m_lanes_a, .ref m_sizes_a, .ref m_items_a, .ref m_moved_a])), (m_now_a, .inl (cI, 65, .inl z51))] := hD
                              exact hk_162 r57 _ _ _ hM (lv_sub hl [0, 1, 2, 3, 4, 5, 6, 7, 8, 9] rfl) (hP.sub [0, 1, 2, 3] rfl) (hD.sub [0, 1, 2, 3] (by decide) rfl) hS
                            · replace hM := sx_ift c56 hM
                              refine lv_aload_n hx hb dX5_renew_146 rfl (lv_at hl 0 rfl) ?_
                              refine va_get (D := D) (ci := 5) (v := .ref m_now_a) (C := RX5) (T := TX5) (N := 17) hx hb hts hin_X5 hown hK hP 2 rfl rfl 0 (by decide) hf_7 (fun _ h9 => h9) rfl dX5_renew_147 ?_
                              refine lv_iconst (v := 2) hx hb dX5_renew_150 (by decide) ?_
                              refine va_iald hx hb hK hP 3 0 rfl rfl (sx_ib_s (by decide)) dX5_renew_151 ?_
                              refine lv_goto (tgt := 162) hx hb dX5_renew_152 (by decide) ?_
                              exact hk_162 (z51 ((2 : Int32)).toNatClampNeg) _ _ _ hM (lv_sub hl [0, 1, 2, 3, 4, 5, 6, 7, 8, 9] rfl) (hP.sub [0, 1, 2, 3] rfl) (hD.sub [0, 1, 2, 3] (by decide) rfl) hS
                      exact lp_110 F (0 : Int32) z29 _ _ _ hM (lv_sub hl [1, 2, 3, 4, 5, 6, 7, 8, 9, 0] rfl) (hP.sub [0, 1, 2, 3] rfl) (hD.sub [0, 1, 2, 3] (by decide) rfl) hS
                    refine lv_icmp_eq (tgt := 107) hx hb dX5_renew_91 (by decide) (fun c59 => ?_) (fun c59 => ?_)
                    · replace hM := sx_ift c59 hM
                      exact hk_107 _ _ _ hM (lv_sub hl [0, 1, 2, 3, 4, 5, 6, 7, 8] rfl) (hP.sub [0, 1, 2, 3] rfl) (hD.sub [0, 1, 2, 3] (by decide) rfl) hS
                    · replace hM := sx_iff c59 hM
                      refine lv_iload hx hb dX5_renew_94 (lv_at hl 8 rfl) ?_
                      obtain ⟨r60, hc61, hM⟩ := sx_c1_s hM
                      refine sx_iS (As := [.int x28]) (rest := []) (wc := []) (wr := [(m_heard_a, .inl (cI, 8, .inl z30)), (m_aside_a, .inl (cI, 65, .inl w16)), (m_h, .inr (5, [.ref m_now_a, .ref m_tape_a, .int m_typed, .int m_place, .int m_isFault, .ref m_read_a, .ref m_heard_a, .ref m_undone_a, .int m_undos, .ref m_aside_a, .ref m_kept_a, .int m_keptUndos, .int m_isKept, .ref m_lanes_a, .ref m_sizes_a, .ref m_items_a, .ref m_moved_a])), (m_now_a, .inl (cI, 65, .inl z29))]) (w1 := []) ⟨hx, hb, hml, hown, hts⟩ (mtX5_many l D cI cJ cS H.size x28 F r60 hc61) (va_cwS 1 hts gX5_renew_X5_many rfl rfl rfl (by decide +kernel) ⟨Nat.le_trans (by decide) hRf, Nat.le_trans (by decide) hRl⟩) hK hN hP hD hS hA [] [0, 1, 2, 3] rfl (by decide) rfl (by decide) (by decide) rfl hl.1 rfl (Nat.le_of_ble_eq_true rfl) dX5_renew_96 hRc (fun H locs hP hD hS => ?_)
                      have hP : va_P D vwCl [(m_heard_a, .inl (cI, 8, .inl z30)), (m_aside_a, .inl (cI, 65, .inl w16)), (m_h, .inr (5, [.ref m_now_a, .ref m_tape_a, .int m_typed, .int m_place, .int m_isFault, .ref m_read_a, .ref m_heard_a, .ref m_undone_a, .int m_undos, .ref m_aside_a, .ref m_kept_a, .int m_keptUndos, .int m_isKept, .ref m_lanes_a, .ref m_sizes_a, .ref m_items_a, .ref m_moved_a])), (m_now_a, .inl (cI, 65, .inl z29))] H := hP
                      have hD : va_D A [(m_heard_a, .inl (cI, 8, .inl z30)), (m_aside_a, .inl (cI, 65, .inl w16)), (m_h, .inr (5, [.ref m_now_a, .ref m_tape_a, .int m_typed, .int m_place, .int m_isFault, .ref m_read_a, .ref m_heard_a, .ref m_undone_a, .int m_undos, .ref m_aside_a, .ref m_kept_a, .int m_keptUndos, .int m_isKept, .ref m_lanes_a, .ref m_sizes_a, .ref m_items_a, .ref m_moved_a])), (m_now_a, .inl (cI, 65, .inl z29))] := hD
                      refine lv_iload hx hb dX5_renew_99 (lv_at hl 7 rfl) ?_
                      obtain ⟨r62, hc63, hM⟩ := sx_c1_s hM
                      refine sx_iS (As := [.int x27]) (rest := [.int r60]) (wc := []) (wr := [(m_heard_a, .inl (cI, 8, .inl z30)), (m_aside_a, .inl (cI, 65, .inl w16)), (m_h, .inr (5, [.ref m_now_a, .ref m_tape_a, .int m_typed, .int m_place, .int m_isFault, .ref m_read_a, .ref m_heard_a, .ref m_undone_a, .int m_undos, .ref m_aside_a, .ref m_kept_a, .int m_keptUndos, .int m_isKept, .ref m_lanes_a, .ref m_sizes_a, .ref m_items_a, .ref m_moved_a])), (m_now_a, .inl (cI, 65, .inl z29))]) (w1 := []) ⟨hx, hb, hml, hown, hts⟩ (mtX5_many l D cI cJ cS H.size x27 F r62 hc63) (va_cwS 1 hts gX5_renew_X5_many rfl rfl rfl (by decide +kernel) ⟨Nat.le_trans (by decide) hRf, Nat.le_trans (by decide) hRl⟩) hK hN hP hD hS hA [] [0, 1, 2, 3] rfl (by decide) rfl (by decide) (by decide) rfl hl.1 rfl (Nat.le_of_ble_eq_true rfl) dX5_renew_101 hRc (fun H locs hP hD hS => ?_)
                      have hP : va_P D vwCl [(m_heard_a, .inl (cI, 8, .inl z30)), (m_aside_a, .inl (cI, 65, .inl w16)), (m_h, .inr (5, [.ref m_now_a, .ref m_tape_a, .int m_typed, .int m_place, .int m_isFault, .ref m_read_a, .ref m_heard_a, .ref m_undone_a, .int m_undos, .ref m_aside_a, .ref m_kept_a, .int m_keptUndos, .int m_isKept, .ref m_lanes_a, .ref m_sizes_a, .ref m_items_a, .ref m_moved_a])), (m_now_a, .inl (cI, 65, .inl z29))] H := hP
                      have hD : va_D A [(m_heard_a, .inl (cI, 8, .inl z30)), (m_aside_a, .inl (cI, 65, .inl w16)), (m_h, .inr (5, [.ref m_now_a, .ref m_tape_a, .int m_typed, .int m_place, .int m_isFault, .ref m_read_a, .ref m_heard_a, .ref m_undone_a, .int m_undos, .ref m_aside_a, .ref m_kept_a, .int m_keptUndos, .int m_isKept, .ref m_lanes_a, .ref m_sizes_a, .ref m_items_a, .ref m_moved_a])), (m_now_a, .inl (cI, 65, .inl z29))] := hD
                      refine lv_icmp_ge (tgt := 201) hx hb dX5_renew_104 (by decide) (fun c64 => ?_) (fun c64 => ?_)
                      · replace hM := sx_ift c64 hM
                        exact hk_201 x27 z29 z30 _ _ _ hM (lv_sub hl [0, 1, 2, 3, 4, 5, 6, 7, 8] rfl) (hP.sub [0, 1, 2, 3] rfl) (hD.sub [0, 1, 2, 3] (by decide) rfl) hS
                      · replace hM := sx_iff c64 hM
                        exact hk_107 _ _ _ hM (lv_sub hl [0, 1, 2, 3, 4, 5, 6, 7, 8] rfl) (hP.sub [0, 1, 2, 3] rfl) (hD.sub [0, 1, 2, 3] (by decide) rfl) hS
            exact lp_70 F (-4 : Int32) (0 : Int32) m_now m_heard _ _ _ hM (lv_sub hl [3, 4, 5, 6, 7, 8, 2, 1, 0] rfl) (hP.sub [0, 1, 2, 3] rfl) (hD.sub [0, 1, 2, 3] (by decide) rfl) hS
          · replace hM := sx_ift c15 hM
            refine lv_iconst (v := -1) hx hb dX5_renew_50 (by decide) ?_
            obtain ⟨rfl, rfl, rfl, rfl⟩ := sx_o4 hM
            exact hret _ _ _ _ dX5_renew_51 (hP.sub [0, 1, 2, 3] rfl) (hD.sub [0, 1, 2, 3] (by decide) rfl) hS
set_option maxHeartbeats 4000000 in
set_option maxRecDepth 100000 in
theorem mtX5_renew (l : Launch) (D : va_G) (cI cJ cS : ClassId) (sz : Nat) (m_h m_now_a m_tape_a m_read_a m_heard_a m_undone_a m_aside_a m_kept_a m_lanes_a m_sizes_a m_items_a m_moved_a : Nat) (m_now : Nat → Int32) (m_typed : Int32) (m_place : Int32) (m_isFault : Int32) (m_heard : Nat → Int32) (m_undos : Int32) (m_aside : Nat → Int32) (m_keptUndos : Int32) (m_isKept : Int32) (a1 : Int32) (a2 : Int32) (a3 : Int32) (a4 : Int32) (a5 : Int32) (F : Nat) (r0 : Int32) (w_m_now : Nat → Int32) (w_m_heard : Nat → Int32) (w_m_aside : Nat → Int32) (hM : fnX5_renew F m_now m_heard m_aside a1 a2 a3 a4 a5 = some (r0, w_m_now, w_m_heard, w_m_aside)) : sx_MI l yX5_renew wsX5_renew ({ frames := 4, cells := 0, slots := 0, locals := 92 }) D (sx_T cI cJ cS) sz [.ref m_h, .int a1, .int a2, .int a3, .int a4, .int a5] [(m_h, .inr (5, [.ref m_now_a, .ref m_tape_a, .int m_typed, .int m_place, .int m_isFault, .ref m_read_a, .ref m_heard_a, .ref m_undone_a, .int m_undos, .ref m_aside_a, .ref m_kept_a, .int m_keptUndos, .int m_isKept, .ref m_lanes_a, .ref m_sizes_a, .ref m_items_a, .ref m_moved_a])), (m_now_a, .inl (cI, 65, .inl m_now)), (m_heard_a, .inl (cI, 8, .inl m_heard)), (m_aside_a, .inl (cI, 65, .inl m_aside))] r0 [(m_h, .inr (5, [.ref m_now_a, .ref m_tape_a, .int m_typed, .int m_place, .int m_isFault, .ref m_read_a, .ref m_heard_a, .ref m_undone_a, .int m_undos, .ref m_aside_a, .ref m_kept_a, .int m_keptUndos, .int m_isKept, .ref m_lanes_a, .ref m_sizes_a, .ref m_items_a, .ref m_moved_a])), (m_now_a, .inl (cI, 65, .inl w_m_now)), (m_heard_a, .inl (cI, 8, .inl w_m_heard)), (m_aside_a, .inl (cI, 65, .inl w_m_aside))] := by
  refine Met.ofW (cc := cX5_renew) (maxL := 10) (ret := (some .int)) (by decide) rfl ?_
  intro p e s m args below meth c s₁ B hml hv
  obtain ⟨rfl, hsz, hN, hP, hK, hD0⟩ := hv
  subst hsz
  have hl := lv_entry ([.ref m_h, .int a1, .int a2, .int a3, .int a4, .int a5]) (n := 10) (Nat.le_of_ble_eq_true rfl)
  rw [lg_entry_eq]
  generalize (lg_sl ([.ref m_h, .int a1, .int a2, .int a3, .int a4, .int a5]) ++ List.replicate (10 - (lg_sl ([.ref m_h, .int a1, .int a2, .int a3, .int a4, .int a5])).length) Slot.unset).toArray = ls at hl ⊢
  exact kwX5_renew B.exec B.bytes hml (findClass_of_methodNamed B.named) (atoms_spec (ws := wsX5_renew) B.pre) hN hK (fun q h => Or.inr h) (by decide) (by decide) ⟨Nat.zero_le _, Nat.zero_le _⟩ m_h m_now_a m_tape_a m_read_a m_heard_a m_undone_a m_aside_a m_kept_a m_lanes_a m_sizes_a m_items_a m_moved_a m_now m_typed m_place m_isFault m_heard m_undos m_aside m_keptUndos m_isKept a1 a2 a3 a4 a5 F r0 w_m_now w_m_heard w_m_aside hM _ _ _ hl hP hD0.self va_S.rf (fun H1 locs1 ls1 pc1 hd hP hD hS => W.iret (v := r0) B.exec B.bytes B.returns (fun t ht hW => ⟨⟨r0, (), rfl, rfl, by rw [ht]; exact hP, hD⟩, hS.F ht⟩) hS.2.2 hd)

def bdX5_pick_23 (F : Nat) (x2_ : Int32) (r_ : Int32 → Option (Int32)) (x3_ : Int32) : Option (Int32) :=
  (if ((x2_ >>> (x3_ &&& 31)) &&& (1 : Int32)) = 0 then sx_nm (x3_ + (1 : Int32)) (fun (v4 : Int32) => (r_ v4)) else (some (x3_)))
def bdX5_pick_4 (F : Nat) (x1_ : Int32) (kf_21 : Int32 → Option (Int32)) (r_ : Int32 → Int32 → Option (Int32)) (x2_ : Int32) (x3_ : Int32) : Option (Int32) :=
  (if x1_ ≤ x3_ then (kf_21 x2_) else sx_nm (x2_ &&& (x2_ - (1 : Int32))) (fun (v8 : Int32) => sx_nm (x3_ + (1 : Int32)) (fun (v9 : Int32) => (r_ v8 v9))))
def fnX5_pick (F : Nat) (a1 : Int32) (a2 : Int32) : Option (Int32) :=
  sx_lt (fun (x1 : Int32) => sx_lp1 (bdX5_pick_23 F x1) F (0 : Int32)) (fun (k_21 : Int32 → Option (Int32)) => sx_lp2 (bdX5_pick_4 F a2 k_21) F a1 (0 : Int32))
set_option maxHeartbeats 4000000 in
set_option maxRecDepth 100000 in
theorem kwX5_pick {p : Program} {l : Launch} {e : Env} {R : Room} {s : State} {m : MethodId} {args : Array Value} {below : List Frame} {meth : Method} {c : Code} {cells slots : Nat} {Q : State → Prop} {A : Nat → Prop} {H0 : Heap} {D : va_G} {cI cJ cS : ClassId} (hx : p.tables.exec = Jvm.exec) (hb : c.code = cX5_pick) (hml : c.maxLocals = 4) (hown : s.vm.findClass RX5 = some m.cls) (hts : ∀ w ∈ wsX5_pick, w.before args s = true) (hN : sx_N s) (hK : va_K D vwCl (sx_T cI cJ cS) s) (hA : ∀ q, H0.size ≤ q → A q) (hRf : 0 ≤ R.frames) (hRl : 0 ≤ R.locals) (hRc : cells ≤ R.cells ∧ slots ≤ R.slots) (a1 : Int32) (a2 : Int32) (F : Nat) (r0 : Int32) (hM : fnX5_pick F a1 a2 = some r0) (H : Heap) (locs : List Loc) (ls : Array Slot) (hl : lv_has ls 4 [(0, .int a1), (1, .int a2)]) (hP : va_P D vwCl [] H) (hD : va_D A []) (hS : va_S A H0 H locs)
    (hret : ∀ (H1 : Heap) (locs1 : List Loc) (ls1 : Array Slot) (pc1 : Nat), decode cX5_pick pc1 = .ok (.ireturn, 1) → va_P D vwCl [] H1 → va_D A [] → va_S A H0 H1 locs1 → W p l e R s m args below meth c H1 locs1 cells slots Q (F0 m pc1 ls1 [.int r0])) : W p l e R s m args below meth c H locs cells slots Q (F0 m 0 ls []) := by
  unfold fnX5_pick at hM
  refine lv_iload_n hx hb dX5_pick_0 rfl (lv_at hl 0 rfl) ?_
  refine lv_istore_n (lv' := [(2, .int a1), (0, .int a1), (1, .int a2)]) hx hb dX5_pick_1 rfl hl (by decide) rfl (fun ls hl => ?_)
  refine lv_iconst (v := 0) hx hb dX5_pick_2 (by decide) ?_
  refine lv_istore_n (lv' := [(3, .int (0 : Int32)), (2, .int a1), (0, .int a1), (1, .int a2)]) hx hb dX5_pick_3 rfl hl (by decide) rfl (fun ls hl => ?_)
  obtain ⟨k_21, ek_21, hM⟩ := sx_lt_s hM
  have hk_21 : ∀ (x1 : Int32) (H : Heap) (locs : List Loc) (ls : Array Slot), k_21 x1 = some r0 → lv_has ls 4 [(2, .int x1)] → va_P D vwCl [] H → va_D A [] → va_S A H0 H locs → W p l e R s m args below meth c H locs cells slots Q (F0 m 21 ls ([])) := by
    intro x1 H locs ls hM hl hP hD hS
    rw [ek_21] at hM
    refine lv_iconst (v := 0) hx hb dX5_pick_21 (by decide) ?_
    refine lv_istore_n (lv' := [(3, .int (0 : Int32)), (2, .int x1)]) hx hb dX5_pick_22 rfl hl (by decide) rfl (fun ls hl => ?_)
    have lp_23 : ∀ (n : Nat) (x2 : Int32) (H : Heap) (locs : List Loc) (ls : Array Slot), sx_lp1 (bdX5_pick_23 F x1) n x2 = some r0 → lv_has ls 4 [(2, .int x1), (3, .int x2)] → va_P D vwCl [] H → va_D A [] → va_S A H0 H locs → W p l e R s m args below meth c H locs cells slots Q (F0 m 23 ls ([])) := by
      intro n
      induction n with
      | zero => intro x2 H locs ls hM; exact (sx_lp1_0 hM).elim
      | succ n ih =>
        intro x2 H locs ls hM hl hP hD hS
        have hM : bdX5_pick_23 F x1 (sx_lp1 (bdX5_pick_23 F x1) n) x2 = some r0 := hM
        generalize sx_lp1 (bdX5_pick_23 F x1) n = r_23 at hM ih
        unfold bdX5_pick_23 at hM
        refine lv_iload_n hx hb dX5_pick_23 rfl (lv_at hl 0 rfl) ?_
        refine lv_iload_n hx hb dX5_pick_24 rfl (lv_at hl 1 rfl) ?_
        refine lv_ishr hx hb dX5_pick_25 ?_
        refine lv_iconst (v := 1) hx hb dX5_pick_26 (by decide) ?_
        refine lv_iand hx hb dX5_pick_27 ?_
        refine lv_if_ne (tgt := 37) hx hb dX5_pick_28 (by decide) (fun c3 => ?_) (fun c3 => ?_)
        · replace hM := sx_iff c3 hM
          refine lv_iload_n hx hb dX5_pick_37 rfl (lv_at hl 1 rfl) ?_
          obtain rfl := sx_o1 hM
          exact hret _ _ _ _ dX5_pick_38 (hP.sub [] rfl) (hD.sub [] (by decide) rfl) hS
        · replace hM := sx_ift c3 hM
          obtain ⟨v4, ev4, hM⟩ := sx_nm_s hM
          refine lv_iinc (v := v4) (lv' := [(3, .int v4), (2, .int x1)]) hx hb dX5_pick_31 hl (k := 1) rfl (by rw [ev4]; rfl) (by decide) rfl (fun ls hl => ?_)
          refine lv_goto (tgt := 23) hx hb dX5_pick_34 (by decide) ?_
          exact ih v4 _ _ _ hM (lv_sub hl [1, 0] rfl) (hP.sub [] rfl) (hD.sub [] (by decide) rfl) hS
    exact lp_23 F (0 : Int32) _ _ _ hM (lv_sub hl [1, 0] rfl) (hP.sub [] rfl) (hD.sub [] (by decide) rfl) hS
  have lp_4 : ∀ (n : Nat) (x5 : Int32) (x6 : Int32) (H : Heap) (locs : List Loc) (ls : Array Slot), sx_lp2 (bdX5_pick_4 F a2 k_21) n x5 x6 = some r0 → lv_has ls 4 [(1, .int a2), (2, .int x5), (3, .int x6)] → va_P D vwCl [] H → va_D A [] → va_S A H0 H locs → W p l e R s m args below meth c H locs cells slots Q (F0 m 4 ls ([])) := by
    intro n
    induction n with
    | zero => intro x5 x6 H locs ls hM; exact (sx_lp2_0 hM).elim
    | succ n ih =>
      intro x5 x6 H locs ls hM hl hP hD hS
      have hM : bdX5_pick_4 F a2 k_21 (sx_lp2 (bdX5_pick_4 F a2 k_21) n) x5 x6 = some r0 := hM
      generalize sx_lp2 (bdX5_pick_4 F a2 k_21) n = r_4 at hM ih
      unfold bdX5_pick_4 at hM
      refine lv_iload_n hx hb dX5_pick_4 rfl (lv_at hl 2 rfl) ?_
      refine lv_iload_n hx hb dX5_pick_5 rfl (lv_at hl 0 rfl) ?_
      refine lv_icmp_ge (tgt := 21) hx hb dX5_pick_6 (by decide) (fun c7 => ?_) (fun c7 => ?_)
      · replace hM := sx_ift c7 hM
        exact hk_21 x5 _ _ _ hM (lv_sub hl [1] rfl) (hP.sub [] rfl) (hD.sub [] (by decide) rfl) hS
      · replace hM := sx_iff c7 hM
        refine lv_iload_n hx hb dX5_pick_9 rfl (lv_at hl 1 rfl) ?_
        refine lv_iload_n hx hb dX5_pick_10 rfl (lv_at hl 1 rfl) ?_
        refine lv_iconst (v := 1) hx hb dX5_pick_11 (by decide) ?_
        refine lv_isub hx hb dX5_pick_12 ?_
        refine lv_iand hx hb dX5_pick_13 ?_
        obtain ⟨v8, ev8, hM⟩ := sx_nm_s hM
        refine W.eq (g2 := F0 m 14 ls (.int v8 :: [])) (by subst ev8; rfl) ?_
        refine lv_istore_n (lv' := [(2, .int v8), (1, .int a2), (3, .int x6)]) hx hb dX5_pick_14 rfl hl (by decide) rfl (fun ls hl => ?_)
        obtain ⟨v9, ev9, hM⟩ := sx_nm_s hM
        refine lv_iinc (v := v9) (lv' := [(3, .int v9), (2, .int v8), (1, .int a2)]) hx hb dX5_pick_15 hl (k := 2) rfl (by rw [ev9]; rfl) (by decide) rfl (fun ls hl => ?_)
        refine lv_goto (tgt := 4) hx hb dX5_pick_18 (by decide) ?_
        exact ih v8 v9 _ _ _ hM (lv_sub hl [2, 1, 0] rfl) (hP.sub [] rfl) (hD.sub [] (by decide) rfl) hS
  exact lp_4 F a1 (0 : Int32) _ _ _ hM (lv_sub hl [3, 1, 0] rfl) (hP.sub [] rfl) (hD.sub [] (by decide) rfl) hS
set_option maxHeartbeats 4000000 in
set_option maxRecDepth 100000 in
theorem mtX5_pick (l : Launch) (D : va_G) (cI cJ cS : ClassId) (sz : Nat) (a1 : Int32) (a2 : Int32) (F : Nat) (r0 : Int32) (hM : fnX5_pick F a1 a2 = some r0) : sx_MI l yX5_pick wsX5_pick ({ frames := 0, cells := 0, slots := 0, locals := 0 }) D (sx_T cI cJ cS) sz [.int a1, .int a2] [] r0 [] := by
  refine Met.ofW (cc := cX5_pick) (maxL := 4) (ret := (some .int)) (by decide) rfl ?_
  intro p e s m args below meth c s₁ B hml hv
  obtain ⟨rfl, hsz, hN, hP, hK, hD0⟩ := hv
  subst hsz
  have hl := lv_entry ([.int a1, .int a2]) (n := 4) (Nat.le_of_ble_eq_true rfl)
  rw [lg_entry_eq]
  generalize (lg_sl ([.int a1, .int a2]) ++ List.replicate (4 - (lg_sl ([.int a1, .int a2])).length) Slot.unset).toArray = ls at hl ⊢
  exact kwX5_pick B.exec B.bytes hml (findClass_of_methodNamed B.named) (atoms_spec (ws := wsX5_pick) B.pre) hN hK (fun q h => Or.inr h) (by decide) (by decide) ⟨Nat.zero_le _, Nat.zero_le _⟩ a1 a2 F r0 hM _ _ _ hl hP hD0.self va_S.rf (fun H1 locs1 ls1 pc1 hd hP hD hS => W.iret (v := r0) B.exec B.bytes B.returns (fun t ht hW => ⟨⟨r0, (), rfl, rfl, by rw [ht]; exact hP, hD⟩, hS.F ht⟩) hS.2.2 hd)

def bdX5_sits_31 (F : Nat) (x3_ : Int32) (r_ : Int32 → Int32 → Int32 → Int32 → (Nat → Int32) → Option ((Nat → Int32))) (x4_ : Int32) (x5_ : Int32) (x6_ : Int32) (x7_ : Int32) (m_now : Nat → Int32) : Option ((Nat → Int32)) :=
  (if x3_ ≤ x7_ then (some (m_now)) else sx_gd (sx_nz (x3_ - x7_)) (sx_nm (x5_ / (x3_ - x7_)) (fun (v10 : Int32) => sx_gd (sx_nz v10) (sx_c1 (fnX5_pick F x4_ (x6_ / v10)) (fun (r12 : Int32) => sx_gd (sx_nz v10) (sx_nm (x6_ - x6_ / v10 * v10) (fun (v15 : Int32) => sx_nm (x4_ &&& (((1 : Int32) <<< (r12 &&& 31)) ^^^ (-1 : Int32))) (fun (v16 : Int32) => sx_gd (sx_ib ((11 : Int32) + x7_) 65) (sx_nm (x7_ + (1 : Int32)) (fun (v18 : Int32) => (r_ v16 v10 v15 v18 (upd m_now (((11 : Int32) + x7_)).toNatClampNeg r12))))))))))))
def fnX5_sits (F : Nat) (m_now : Nat → Int32) (a1 : Int32) (a2 : Int32) : Option ((Nat → Int32)) :=
  sx_nm (m_now ((0 : Int32)).toNatClampNeg) (fun (v1 : Int32) => sx_nm (((1 : Int32) <<< (v1 &&& 31)) - (2 : Int32)) (fun (v2 : Int32) => sx_lp5 (bdX5_sits_31 F v1) F v2 a2 a1 (1 : Int32) (upd m_now ((11 : Int32)).toNatClampNeg (0 : Int32))))
set_option maxHeartbeats 4000000 in
set_option maxRecDepth 100000 in
theorem kwX5_sits {p : Program} {l : Launch} {e : Env} {R : Room} {s : State} {m : MethodId} {args : Array Value} {below : List Frame} {meth : Method} {c : Code} {cells slots : Nat} {Q : State → Prop} {A : Nat → Prop} {H0 : Heap} {D : va_G} {cI cJ cS : ClassId} (hx : p.tables.exec = Jvm.exec) (hb : c.code = cX5_sits) (hml : c.maxLocals = 9) (hown : s.vm.findClass RX5 = some m.cls) (hts : ∀ w ∈ wsX5_sits, w.before args s = true) (hN : sx_N s) (hK : va_K D vwCl (sx_T cI cJ cS) s) (hA : ∀ q, H0.size ≤ q → A q) (hRf : 1 ≤ R.frames) (hRl : 23 ≤ R.locals) (hRc : cells ≤ R.cells ∧ slots ≤ R.slots) (m_h m_now_a m_tape_a m_read_a m_heard_a m_undone_a m_aside_a m_kept_a m_lanes_a m_sizes_a m_items_a m_moved_a : Nat) (m_now : Nat → Int32) (m_typed : Int32) (m_place : Int32) (m_isFault : Int32) (m_undos : Int32) (m_keptUndos : Int32) (m_isKept : Int32) (a1 : Int32) (a2 : Int32) (F : Nat) (w_m_now : Nat → Int32) (hM : fnX5_sits F m_now a1 a2 = some w_m_now) (H : Heap) (locs : List Loc) (ls : Array Slot) (hl : lv_has ls 9 [(0, .ref m_h), (1, .int a1), (2, .int a2)]) (hP : va_P D vwCl [(m_h, .inr (5, [.ref m_now_a, .ref m_tape_a, .int m_typed, .int m_place, .int m_isFault, .ref m_read_a, .ref m_heard_a, .ref m_undone_a, .int m_undos, .ref m_aside_a, .ref m_kept_a, .int m_keptUndos, .int m_isKept, .ref m_lanes_a, .ref m_sizes_a, .ref m_items_a, .ref m_moved_a])), (m_now_a, .inl (cI, 65, .inl m_now))] H) (hD : va_D A [(m_h, .inr (5, [.ref m_now_a, .ref m_tape_a, .int m_typed, .int m_place, .int m_isFault, .ref m_read_a, .ref m_heard_a, .ref m_undone_a, .int m_undos, .ref m_aside_a, .ref m_kept_a, .int m_keptUndos, .int m_isKept, .ref m_lanes_a, .ref m_sizes_a, .ref m_items_a, .ref m_moved_a])), (m_now_a, .inl (cI, 65, .inl m_now))]) (hS : va_S A H0 H locs)
    (hret : ∀ (H1 : Heap) (locs1 : List Loc) (ls1 : Array Slot) (pc1 : Nat), decode cX5_sits pc1 = .ok (.return_, 1) → va_P D vwCl [(m_h, .inr (5, [.ref m_now_a, .ref m_tape_a, .int m_typed, .int m_place, .int m_isFault, .ref m_read_a, .ref m_heard_a, .ref m_undone_a, .int m_undos, .ref m_aside_a, .ref m_kept_a, .int m_keptUndos, .int m_isKept, .ref m_lanes_a, .ref m_sizes_a, .ref m_items_a, .ref m_moved_a])), (m_now_a, .inl (cI, 65, .inl w_m_now))] H1 → va_D A [(m_h, .inr (5, [.ref m_now_a, .ref m_tape_a, .int m_typed, .int m_place, .int m_isFault, .ref m_read_a, .ref m_heard_a, .ref m_undone_a, .int m_undos, .ref m_aside_a, .ref m_kept_a, .int m_keptUndos, .int m_isKept, .ref m_lanes_a, .ref m_sizes_a, .ref m_items_a, .ref m_moved_a])), (m_now_a, .inl (cI, 65, .inl w_m_now))] → va_S A H0 H1 locs1 → W p l e R s m args below meth c H1 locs1 cells slots Q (F0 m pc1 ls1 [])) : W p l e R s m args below meth c H locs cells slots Q (F0 m 0 ls []) := by
  have hf_7 := hts (.fieldLink RX5 7 "SealedLipsModel" "now" "[I") (by decide +kernel)
  have hin_X5 : ∀ w ∈ wsX50, w ∈ wsX5_sits := by decide +kernel
  unfold fnX5_sits at hM
  refine lv_aload_n hx hb dX5_sits_0 rfl (lv_at hl 0 rfl) ?_
  refine va_get (D := D) (ci := 5) (v := .ref m_now_a) (C := RX5) (T := TX5) (N := 17) hx hb hts hin_X5 hown hK hP 0 rfl rfl 0 (by decide) hf_7 (fun _ h9 => h9) rfl dX5_sits_1 ?_
  refine lv_iconst (v := 0) hx hb dX5_sits_4 (by decide) ?_
  refine va_iald hx hb hK hP 1 0 rfl rfl (sx_ib_s (by decide)) dX5_sits_5 ?_
  obtain ⟨v1, ev1, hM⟩ := sx_nm_s hM
  refine W.eq (g2 := F0 m 6 ls (.int v1 :: [])) (by subst ev1; rfl) ?_
  refine lv_istore_n (lv' := [(3, .int v1), (0, .ref m_h), (1, .int a1), (2, .int a2)]) hx hb dX5_sits_6 rfl hl (by decide) rfl (fun ls hl => ?_)
  refine lv_iconst (v := 1) hx hb dX5_sits_7 (by decide) ?_
  refine lv_iload_n hx hb dX5_sits_8 rfl (lv_at hl 0 rfl) ?_
  refine lv_ishl hx hb dX5_sits_9 ?_
  refine lv_iconst (v := 2) hx hb dX5_sits_10 (by decide) ?_
  refine lv_isub hx hb dX5_sits_11 ?_
  obtain ⟨v2, ev2, hM⟩ := sx_nm_s hM
  refine W.eq (g2 := F0 m 12 ls (.int v2 :: [])) (by subst ev2; rfl) ?_
  refine lv_istore (lv' := [(4, .int v2), (3, .int v1), (0, .ref m_h), (1, .int a1), (2, .int a2)]) hx hb dX5_sits_12 hl (by decide) rfl (fun ls hl => ?_)
  refine lv_iload_n hx hb dX5_sits_14 rfl (lv_at hl 4 rfl) ?_
  refine lv_istore (lv' := [(5, .int a2), (4, .int v2), (3, .int v1), (0, .ref m_h), (1, .int a1), (2, .int a2)]) hx hb dX5_sits_15 hl (by decide) rfl (fun ls hl => ?_)
  refine lv_iload_n hx hb dX5_sits_17 rfl (lv_at hl 4 rfl) ?_
  refine lv_istore (lv' := [(6, .int a1), (5, .int a2), (4, .int v2), (3, .int v1), (0, .ref m_h), (1, .int a1), (2, .int a2)]) hx hb dX5_sits_18 hl (by decide) rfl (fun ls hl => ?_)
  refine lv_aload_n hx hb dX5_sits_20 rfl (lv_at hl 4 rfl) ?_
  refine va_get (D := D) (ci := 5) (v := .ref m_now_a) (C := RX5) (T := TX5) (N := 17) hx hb hts hin_X5 hown hK hP 0 rfl rfl 0 (by decide) hf_7 (fun _ h9 => h9) rfl dX5_sits_21 ?_
  refine lv_bipush (v := 11) hx hb dX5_sits_24 (by decide) ?_
  refine lv_iconst (v := 0) hx hb dX5_sits_26 (by decide) ?_
  refine va_iast hx hb hK hP hD hS 1 0 rfl rfl (sx_ib_s (by decide)) dX5_sits_27 (fun H locs hP hD hS => ?_)
  have hP : va_P D vwCl [(m_h, .inr (5, [.ref m_now_a, .ref m_tape_a, .int m_typed, .int m_place, .int m_isFault, .ref m_read_a, .ref m_heard_a, .ref m_undone_a, .int m_undos, .ref m_aside_a, .ref m_kept_a, .int m_keptUndos, .int m_isKept, .ref m_lanes_a, .ref m_sizes_a, .ref m_items_a, .ref m_moved_a])), (m_now_a, .inl (cI, 65, .inl (upd m_now ((11 : Int32)).toNatClampNeg (0 : Int32))))] H := hP
  have hD : va_D A [(m_h, .inr (5, [.ref m_now_a, .ref m_tape_a, .int m_typed, .int m_place, .int m_isFault, .ref m_read_a, .ref m_heard_a, .ref m_undone_a, .int m_undos, .ref m_aside_a, .ref m_kept_a, .int m_keptUndos, .int m_isKept, .ref m_lanes_a, .ref m_sizes_a, .ref m_items_a, .ref m_moved_a])), (m_now_a, .inl (cI, 65, .inl (upd m_now ((11 : Int32)).toNatClampNeg (0 : Int32))))] := hD
  refine lv_iconst (v := 1) hx hb dX5_sits_28 (by decide) ?_
  refine lv_istore (lv' := [(7, .int (1 : Int32)), (6, .int a1), (5, .int a2), (4, .int v2), (3, .int v1), (0, .ref m_h), (1, .int a1), (2, .int a2)]) hx hb dX5_sits_29 hl (by decide) rfl (fun ls hl => ?_)
  have lp_31 : ∀ (n : Nat) (x3 : Int32) (x4 : Int32) (x5 : Int32) (x6 : Int32) (z7 : Nat → Int32) (H : Heap) (locs : List Loc) (ls : Array Slot), sx_lp5 (bdX5_sits_31 F v1) n x3 x4 x5 x6 z7 = some w_m_now → lv_has ls 9 [(0, .ref m_h), (3, .int v1), (4, .int x3), (5, .int x4), (6, .int x5), (7, .int x6)] → va_P D vwCl [(m_h, .inr (5, [.ref m_now_a, .ref m_tape_a, .int m_typed, .int m_place, .int m_isFault, .ref m_read_a, .ref m_heard_a, .ref m_undone_a, .int m_undos, .ref m_aside_a, .ref m_kept_a, .int m_keptUndos, .int m_isKept, .ref m_lanes_a, .ref m_sizes_a, .ref m_items_a, .ref m_moved_a])), (m_now_a, .inl (cI, 65, .inl z7))] H → va_D A [(m_h, .inr (5, [.ref m_now_a, .ref m_tape_a, .int m_typed, .int m_place, .int m_isFault, .ref m_read_a, .ref m_heard_a, .ref m_undone_a, .int m_undos, .ref m_aside_a, .ref m_kept_a, .int m_keptUndos, .int m_isKept, .ref m_lanes_a, .ref m_sizes_a, .ref m_items_a, .ref m_moved_a])), (m_now_a, .inl (cI, 65, .inl z7))] → va_S A H0 H locs → W p l e R s m args below meth c H locs cells slots Q (F0 m 31 ls ([])) := by
    intro n
    induction n with
    | zero => intro x3 x4 x5 x6 z7 H locs ls hM; exact (sx_lp5_0 hM).elim
    | succ n ih =>
      intro x3 x4 x5 x6 z7 H locs ls hM hl hP hD hS
      have hM : bdX5_sits_31 F v1 (sx_lp5 (bdX5_sits_31 F v1) n) x3 x4 x5 x6 z7 = some w_m_now := hM
      generalize sx_lp5 (bdX5_sits_31 F v1) n = r_31 at hM ih
      unfold bdX5_sits_31 at hM
      refine lv_iload hx hb dX5_sits_31 (lv_at hl 5 rfl) ?_
      refine lv_iload_n hx hb dX5_sits_33 rfl (lv_at hl 1 rfl) ?_
      refine lv_icmp_ge (tgt := 94) hx hb dX5_sits_34 (by decide) (fun c8 => ?_) (fun c8 => ?_)
      · replace hM := sx_ift c8 hM
        obtain rfl := sx_o1 hM
        exact hret _ _ _ _ dX5_sits_94 (hP.sub [0, 1] rfl) (hD.sub [0, 1] (by decide) rfl) hS
      · replace hM := sx_iff c8 hM
        refine lv_iload hx hb dX5_sits_37 (lv_at hl 3 rfl) ?_
        refine lv_iload_n hx hb dX5_sits_39 rfl (lv_at hl 1 rfl) ?_
        refine lv_iload hx hb dX5_sits_40 (lv_at hl 5 rfl) ?_
        refine lv_isub hx hb dX5_sits_42 ?_
        obtain ⟨g9, hM⟩ := sx_gd_s hM
        refine lv_idiv hx hb dX5_sits_43 (sx_nz_s g9) ?_
        obtain ⟨v10, ev10, hM⟩ := sx_nm_s hM
        refine W.eq (g2 := F0 m 44 ls (.int v10 :: [])) (by subst ev10; rfl) ?_
        refine lv_istore (lv' := [(5, .int v10), (0, .ref m_h), (3, .int v1), (4, .int x3), (6, .int x5), (7, .int x6)]) hx hb dX5_sits_44 hl (by decide) rfl (fun ls hl => ?_)
        refine lv_iload hx hb dX5_sits_46 (lv_at hl 3 rfl) ?_
        refine lv_iload hx hb dX5_sits_48 (lv_at hl 4 rfl) ?_
        refine lv_iload hx hb dX5_sits_50 (lv_at hl 0 rfl) ?_
        obtain ⟨g11, hM⟩ := sx_gd_s hM
        refine lv_idiv hx hb dX5_sits_52 (sx_nz_s g11) ?_
        obtain ⟨r12, hc13, hM⟩ := sx_c1_s hM
        refine sx_iS (As := [.int x3, .int (x5 / v10)]) (rest := []) (wc := []) (wr := [(m_h, .inr (5, [.ref m_now_a, .ref m_tape_a, .int m_typed, .int m_place, .int m_isFault, .ref m_read_a, .ref m_heard_a, .ref m_undone_a, .int m_undos, .ref m_aside_a, .ref m_kept_a, .int m_keptUndos, .int m_isKept, .ref m_lanes_a, .ref m_sizes_a, .ref m_items_a, .ref m_moved_a])), (m_now_a, .inl (cI, 65, .inl z7))]) (w1 := []) ⟨hx, hb, hml, hown, hts⟩ (mtX5_pick l D cI cJ cS H.size x3 (x5 / v10) F r12 hc13) (va_cwS 2 hts gX5_sits_X5_pick rfl rfl rfl (by decide +kernel) ⟨Nat.le_trans (by decide) hRf, Nat.le_trans (by decide) hRl⟩) hK hN hP hD hS hA [] [0, 1] rfl (by decide) rfl (by decide) (by decide) rfl hl.1 rfl (Nat.le_of_ble_eq_true rfl) dX5_sits_53 hRc (fun H locs hP hD hS => ?_)
        have hP : va_P D vwCl [(m_h, .inr (5, [.ref m_now_a, .ref m_tape_a, .int m_typed, .int m_place, .int m_isFault, .ref m_read_a, .ref m_heard_a, .ref m_undone_a, .int m_undos, .ref m_aside_a, .ref m_kept_a, .int m_keptUndos, .int m_isKept, .ref m_lanes_a, .ref m_sizes_a, .ref m_items_a, .ref m_moved_a])), (m_now_a, .inl (cI, 65, .inl z7))] H := hP
        have hD : va_D A [(m_h, .inr (5, [.ref m_now_a, .ref m_tape_a, .int m_typed, .int m_place, .int m_isFault, .ref m_read_a, .ref m_heard_a, .ref m_undone_a, .int m_undos, .ref m_aside_a, .ref m_kept_a, .int m_keptUndos, .int m_isKept, .ref m_lanes_a, .ref m_sizes_a, .ref m_items_a, .ref m_moved_a])), (m_now_a, .inl (cI, 65, .inl z7))] := hD
        refine lv_istore (lv' := [(8, .int r12), (5, .int v10), (0, .ref m_h), (3, .int v1), (4, .int x3), (6, .int x5), (7, .int x6)]) hx hb dX5_sits_56 hl (by decide) rfl (fun ls hl => ?_)
        refine lv_iload hx hb dX5_sits_58 (lv_at hl 5 rfl) ?_
        refine lv_iload hx hb dX5_sits_60 (lv_at hl 1 rfl) ?_
        obtain ⟨g14, hM⟩ := sx_gd_s hM
        refine lv_irem hx hb dX5_sits_62 (sx_nz_s g14) ?_
        obtain ⟨v15, ev15, hM⟩ := sx_nm_s hM
        refine W.eq (g2 := F0 m 63 ls (.int v15 :: [])) (by subst ev15; rfl) ?_
        refine lv_istore (lv' := [(6, .int v15), (8, .int r12), (5, .int v10), (0, .ref m_h), (3, .int v1), (4, .int x3), (7, .int x6)]) hx hb dX5_sits_63 hl (by decide) rfl (fun ls hl => ?_)
        refine lv_iload hx hb dX5_sits_65 (lv_at hl 5 rfl) ?_
        refine lv_iconst (v := 1) hx hb dX5_sits_67 (by decide) ?_
        refine lv_iload hx hb dX5_sits_68 (lv_at hl 1 rfl) ?_
        refine lv_ishl hx hb dX5_sits_70 ?_
        refine lv_iconst (v := -1) hx hb dX5_sits_71 (by decide) ?_
        refine lv_ixor hx hb dX5_sits_72 ?_
        refine lv_iand hx hb dX5_sits_73 ?_
        obtain ⟨v16, ev16, hM⟩ := sx_nm_s hM
        refine W.eq (g2 := F0 m 74 ls (.int v16 :: [])) (by subst ev16; rfl) ?_
        refine lv_istore (lv' := [(4, .int v16), (6, .int v15), (8, .int r12), (5, .int v10), (0, .ref m_h), (3, .int v1), (7, .int x6)]) hx hb dX5_sits_74 hl (by decide) rfl (fun ls hl => ?_)
        refine lv_aload_n hx hb dX5_sits_76 rfl (lv_at hl 4 rfl) ?_
        refine va_get (D := D) (ci := 5) (v := .ref m_now_a) (C := RX5) (T := TX5) (N := 17) hx hb hts hin_X5 hown hK hP 0 rfl rfl 0 (by decide) hf_7 (fun _ h9 => h9) rfl dX5_sits_77 ?_
        refine lv_bipush (v := 11) hx hb dX5_sits_80 (by decide) ?_
        refine lv_iload hx hb dX5_sits_82 (lv_at hl 6 rfl) ?_
        refine lv_iadd hx hb dX5_sits_84 ?_
        refine lv_iload hx hb dX5_sits_85 (lv_at hl 2 rfl) ?_
        obtain ⟨g17, hM⟩ := sx_gd_s hM
        refine va_iast hx hb hK hP hD hS 1 0 rfl rfl (sx_ib_s g17) dX5_sits_87 (fun H locs hP hD hS => ?_)
        have hP : va_P D vwCl [(m_h, .inr (5, [.ref m_now_a, .ref m_tape_a, .int m_typed, .int m_place, .int m_isFault, .ref m_read_a, .ref m_heard_a, .ref m_undone_a, .int m_undos, .ref m_aside_a, .ref m_kept_a, .int m_keptUndos, .int m_isKept, .ref m_lanes_a, .ref m_sizes_a, .ref m_items_a, .ref m_moved_a])), (m_now_a, .inl (cI, 65, .inl (upd z7 (((11 : Int32) + x6)).toNatClampNeg r12)))] H := hP
        have hD : va_D A [(m_h, .inr (5, [.ref m_now_a, .ref m_tape_a, .int m_typed, .int m_place, .int m_isFault, .ref m_read_a, .ref m_heard_a, .ref m_undone_a, .int m_undos, .ref m_aside_a, .ref m_kept_a, .int m_keptUndos, .int m_isKept, .ref m_lanes_a, .ref m_sizes_a, .ref m_items_a, .ref m_moved_a])), (m_now_a, .inl (cI, 65, .inl (upd z7 (((11 : Int32) + x6)).toNatClampNeg r12)))] := hD
        obtain ⟨v18, ev18, hM⟩ := sx_nm_s hM
        refine lv_iinc (v := v18) (lv' := [(7, .int v18), (4, .int v16), (6, .int v15), (8, .int r12), (5, .int v10), (0, .ref m_h), (3, .int v1)]) hx hb dX5_sits_88 hl (k := 6) rfl (by rw [ev18]; rfl) (by decide) rfl (fun ls hl => ?_)
        refine lv_goto (tgt := 31) hx hb dX5_sits_91 (by decide) ?_
        exact ih v16 v10 v15 v18 (upd z7 (((11 : Int32) + x6)).toNatClampNeg r12) _ _ _ hM (lv_sub hl [5, 6, 1, 4, 2, 0] rfl) (hP.sub [0, 1] rfl) (hD.sub [0, 1] (by decide) rfl) hS
  exact lp_31 F v2 a2 a1 (1 : Int32) (upd m_now ((11 : Int32)).toNatClampNeg (0 : Int32)) _ _ _ hM (lv_sub hl [5, 4, 3, 2, 1, 0] rfl) (hP.sub [0, 1] rfl) (hD.sub [0, 1] (by decide) rfl) hS
set_option maxHeartbeats 4000000 in
set_option maxRecDepth 100000 in
theorem mtX5_sits (l : Launch) (D : va_G) (cI cJ cS : ClassId) (sz : Nat) (m_h m_now_a m_tape_a m_read_a m_heard_a m_undone_a m_aside_a m_kept_a m_lanes_a m_sizes_a m_items_a m_moved_a : Nat) (m_now : Nat → Int32) (m_typed : Int32) (m_place : Int32) (m_isFault : Int32) (m_undos : Int32) (m_keptUndos : Int32) (m_isKept : Int32) (a1 : Int32) (a2 : Int32) (F : Nat) (w_m_now : Nat → Int32) (hM : fnX5_sits F m_now a1 a2 = some w_m_now) : sx_MV l yX5_sits wsX5_sits ({ frames := 1, cells := 0, slots := 0, locals := 23 }) D (sx_T cI cJ cS) sz [.ref m_h, .int a1, .int a2] [(m_h, .inr (5, [.ref m_now_a, .ref m_tape_a, .int m_typed, .int m_place, .int m_isFault, .ref m_read_a, .ref m_heard_a, .ref m_undone_a, .int m_undos, .ref m_aside_a, .ref m_kept_a, .int m_keptUndos, .int m_isKept, .ref m_lanes_a, .ref m_sizes_a, .ref m_items_a, .ref m_moved_a])), (m_now_a, .inl (cI, 65, .inl m_now))] [(m_h, .inr (5, [.ref m_now_a, .ref m_tape_a, .int m_typed, .int m_place, .int m_isFault, .ref m_read_a, .ref m_heard_a, .ref m_undone_a, .int m_undos, .ref m_aside_a, .ref m_kept_a, .int m_keptUndos, .int m_isKept, .ref m_lanes_a, .ref m_sizes_a, .ref m_items_a, .ref m_moved_a])), (m_now_a, .inl (cI, 65, .inl w_m_now))] := by
  refine Met.ofW (cc := cX5_sits) (maxL := 9) (ret := none) (by decide) rfl ?_
  intro p e s m args below meth c s₁ B hml hv
  obtain ⟨rfl, hsz, hN, hP, hK, hD0⟩ := hv
  subst hsz
  have hl := lv_entry ([.ref m_h, .int a1, .int a2]) (n := 9) (Nat.le_of_ble_eq_true rfl)
  rw [lg_entry_eq]
  generalize (lg_sl ([.ref m_h, .int a1, .int a2]) ++ List.replicate (9 - (lg_sl ([.ref m_h, .int a1, .int a2])).length) Slot.unset).toArray = ls at hl ⊢
  exact kwX5_sits B.exec B.bytes hml (findClass_of_methodNamed B.named) (atoms_spec (ws := wsX5_sits) B.pre) hN hK (fun q h => Or.inr h) (by decide) (by decide) ⟨Nat.zero_le _, Nat.zero_le _⟩ m_h m_now_a m_tape_a m_read_a m_heard_a m_undone_a m_aside_a m_kept_a m_lanes_a m_sizes_a m_items_a m_moved_a m_now m_typed m_place m_isFault m_undos m_keptUndos m_isKept a1 a2 F w_m_now hM _ _ _ hl hP hD0.self va_S.rf (fun H1 locs1 ls1 pc1 hd hP hD hS => W.vret B.exec B.bytes B.returns (fun t ht hW => ⟨⟨(), rfl, trivial, by rw [ht]; exact hP, hD⟩, hS.F ht⟩) hS.2.2 hd)

def bdX5_table_89 (F : Nat) (x1_ : Int32) (x2_ : Int32) (x4_ : Int32) (m_aside : Nat → Int32) (kf_160 : Int32 → Int32 → (Nat → Int32) → (Nat → Int32) → Option (Int32 × (Nat → Int32) × (Nat → Int32) × (Nat → Int32))) (r_ : Int32 → Int32 → Int32 → (Nat → Int32) → (Nat → Int32) → Option (Int32 × (Nat → Int32) × (Nat → Int32) × (Nat → Int32))) (x5_ : Int32) (x6_ : Int32) (x7_ : Int32) (m_now : Nat → Int32) (m_heard : Nat → Int32) : Option (Int32 × (Nat → Int32) × (Nat → Int32) × (Nat → Int32)) :=
  (if x4_ ≤ x7_ then (kf_160 x5_ x6_ m_now m_heard) else sx_c1 (fnX5_sits F m_now x7_ x4_) (fun (w32 : Nat → Int32) => sx_c3 (fnX5_leaksIn F w32 m_heard m_aside x1_ x2_) (fun (r34 : Int32) (w35 : Nat → Int32) (w36 : Nat → Int32) => sx_lt (fun (y38 : Int32) => sx_lt (fun (y39 : Int32) => sx_nm (x7_ + (1 : Int32)) (fun (v40 : Int32) => (r_ y38 y39 v40 w35 w36))) (fun (k_152 : Int32 → Option (Int32 × (Nat → Int32) × (Nat → Int32) × (Nat → Int32))) => (if x6_ < 0 then (k_152 r34) else (if x6_ ≤ r34 then (k_152 x6_) else (k_152 r34))))) (fun (k_131 : Int32 → Option (Int32 × (Nat → Int32) × (Nat → Int32) × (Nat → Int32))) => (if x6_ < 0 then (k_131 x7_) else (if x6_ ≤ r34 then (k_131 x5_) else (k_131 x7_)))))))
def bdX5_table_32 (F : Nat) (m_now : Nat → Int32) (kf_56 : Int32 → Option (Int32 × (Nat → Int32) × (Nat → Int32) × (Nat → Int32))) (r_ : Int32 → Int32 → Option (Int32 × (Nat → Int32) × (Nat → Int32) × (Nat → Int32))) (x4_ : Int32) (x5_ : Int32) : Option (Int32 × (Nat → Int32) × (Nat → Int32) × (Nat → Int32)) :=
  (if (m_now ((0 : Int32)).toNatClampNeg) ≤ x5_ then (kf_56 x4_) else sx_nm (x4_ * x5_) (fun (v49 : Int32) => sx_nm (x5_ + (1 : Int32)) (fun (v50 : Int32) => (r_ v49 v50))))
def fnX5_table (F : Nat) (m_now : Nat → Int32) (m_heard : Nat → Int32) (m_aside : Nat → Int32) (a1 : Int32) (a2 : Int32) (a3 : Int32) : Option (Int32 × (Nat → Int32) × (Nat → Int32) × (Nat → Int32)) :=
  sx_c1 (fnX5_in F (a1).toInt64 (1 : Int64) (20 : Int64)) (fun (r1 : Int32) => (if r1 = 0 then (some ((-1 : Int32), m_now, m_heard, m_aside)) else sx_c1 (fnX5_isHeat F a2) (fun (r4 : Int32) => (if r4 = 0 then (some ((-1 : Int32), m_now, m_heard, m_aside)) else (if (-1 : Int32) ≤ a3 then sx_lt (fun (x8 : Int32) => (if (m_now ((0 : Int32)).toNatClampNeg) = 0 then (if 0 ≤ a3 then (some ((-4 : Int32), m_now, m_heard, m_aside)) else (some ((0 : Int32), m_now, m_heard, m_aside))) else sx_c1 (fnX5_asides F m_now m_aside) (fun (w10 : Nat → Int32) => sx_lt (fun (x12 : Int32) (x13 : Int32) (z14 : Nat → Int32) (z15 : Nat → Int32) => (if 0 ≤ a3 then sx_c1 (fnX5_sits F z14 x12 x8) (fun (w17 : Nat → Int32) => (if (w17 ((0 : Int32)).toNatClampNeg) ≤ a3 then sx_c1 (fnX5_backs F w17 w10) (fun (w20 : Nat → Int32) => (some ((-4 : Int32), w20, z15, w10))) else sx_gd (sx_ib ((11 : Int32) + a3) 65) (sx_nm (w17 (((11 : Int32) + a3)).toNatClampNeg) (fun (v23 : Int32) => sx_c1 (fnX5_backs F w17 w10) (fun (w24 : Nat → Int32) => (some (v23, w24, z15, w10))))))) else (some (x13, z14, z15, w10)))) (fun (k_160 : Int32 → Int32 → (Nat → Int32) → (Nat → Int32) → Option (Int32 × (Nat → Int32) × (Nat → Int32) × (Nat → Int32))) => sx_lp5 (bdX5_table_89 F a1 a2 x8 w10 k_160) F (0 : Int32) (-1 : Int32) (0 : Int32) m_now m_heard)))) (fun (k_56 : Int32 → Option (Int32 × (Nat → Int32) × (Nat → Int32) × (Nat → Int32))) => sx_lp2 (bdX5_table_32 F m_now k_56) F (1 : Int32) (2 : Int32)) else (some ((-1 : Int32), m_now, m_heard, m_aside)))))))
set_option maxHeartbeats 4000000 in
set_option maxRecDepth 100000 in
theorem kwX5_table {p : Program} {l : Launch} {e : Env} {R : Room} {s : State} {m : MethodId} {args : Array Value} {below : List Frame} {meth : Method} {c : Code} {cells slots : Nat} {Q : State → Prop} {A : Nat → Prop} {H0 : Heap} {D : va_G} {cI cJ cS : ClassId} (hx : p.tables.exec = Jvm.exec) (hb : c.code = cX5_table) (hml : c.maxLocals = 9) (hown : s.vm.findClass RX5 = some m.cls) (hts : ∀ w ∈ wsX5_table, w.before args s = true) (hN : sx_N s) (hK : va_K D vwCl (sx_T cI cJ cS) s) (hA : ∀ q, H0.size ≤ q → A q) (hRf : 5 ≤ R.frames) (hRl : 116 ≤ R.locals) (hRc : cells ≤ R.cells ∧ slots ≤ R.slots) (m_h m_now_a m_tape_a m_read_a m_heard_a m_undone_a m_aside_a m_kept_a m_lanes_a m_sizes_a m_items_a m_moved_a : Nat) (m_now : Nat → Int32) (m_typed : Int32) (m_place : Int32) (m_isFault : Int32) (m_heard : Nat → Int32) (m_undos : Int32) (m_aside : Nat → Int32) (m_keptUndos : Int32) (m_isKept : Int32) (a1 : Int32) (a2 : Int32) (a3 : Int32) (F : Nat) (r0 : Int32) (w_m_now : Nat → Int32) (w_m_heard : Nat → Int32) (w_m_aside : Nat → Int32) (hM : fnX5_table F m_now m_heard m_aside a1 a2 a3 = some (r0, w_m_now, w_m_heard, w_m_aside)) (H : Heap) (locs : List Loc) (ls : Array Slot) (hl : lv_has ls 9 [(0, .ref m_h), (1, .int a1), (2, .int a2), (3, .int a3)]) (hP : va_P D vwCl [(m_h, .inr (5, [.ref m_now_a, .ref m_tape_a, .int m_typed, .int m_place, .int m_isFault, .ref m_read_a, .ref m_heard_a, .ref m_undone_a, .int m_undos, .ref m_aside_a, .ref m_kept_a, .int m_keptUndos, .int m_isKept, .ref m_lanes_a, .ref m_sizes_a, .ref m_items_a, .ref m_moved_a])), (m_now_a, .inl (cI, 65, .inl m_now)), (m_heard_a, .inl (cI, 8, .inl m_heard)), (m_aside_a, .inl (cI, 65, .inl m_aside))] H) (hD : va_D A [(m_h, .inr (5, [.ref m_now_a, .ref m_tape_a, .int m_typed, .int m_place, .int m_isFault, .ref m_read_a, .ref m_heard_a, .ref m_undone_a, .int m_undos, .ref m_aside_a, .ref m_kept_a, .int m_keptUndos, .int m_isKept, .ref m_lanes_a, .ref m_sizes_a, .ref m_items_a, .ref m_moved_a])), (m_now_a, .inl (cI, 65, .inl m_now)), (m_heard_a, .inl (cI, 8, .inl m_heard)), (m_aside_a, .inl (cI, 65, .inl m_aside))]) (hS : va_S A H0 H locs)
    (hret : ∀ (H1 : Heap) (locs1 : List Loc) (ls1 : Array Slot) (pc1 : Nat), decode cX5_table pc1 = .ok (.ireturn, 1) → va_P D vwCl [(m_h, .inr (5, [.ref m_now_a, .ref m_tape_a, .int m_typed, .int m_place, .int m_isFault, .ref m_read_a, .ref m_heard_a, .ref m_undone_a, .int m_undos, .ref m_aside_a, .ref m_kept_a, .int m_keptUndos, .int m_isKept, .ref m_lanes_a, .ref m_sizes_a, .ref m_items_a, .ref m_moved_a])), (m_now_a, .inl (cI, 65, .inl w_m_now)), (m_heard_a, .inl (cI, 8, .inl w_m_heard)), (m_aside_a, .inl (cI, 65, .inl w_m_aside))] H1 → va_D A [(m_h, .inr (5, [.ref m_now_a, .ref m_tape_a, .int m_typed, .int m_place, .int m_isFault, .ref m_read_a, .ref m_heard_a, .ref m_undone_a, .int m_undos, .ref m_aside_a, .ref m_kept_a, .int m_keptUndos, .int m_isKept, .ref m_lanes_a, .ref m_sizes_a, .ref m_items_a, .ref m_moved_a])), (m_now_a, .inl (cI, 65, .inl w_m_now)), (m_heard_a, .inl (cI, 8, .inl w_m_heard)), (m_aside_a, .inl (cI, 65, .inl w_m_aside))] → va_S A H0 H1 locs1 → W p l e R s m args below meth c H1 locs1 cells slots Q (F0 m pc1 ls1 [.int r0])) : W p l e R s m args below meth c H locs cells slots Q (F0 m 0 ls []) := by
  have hf_7 := hts (.fieldLink RX5 7 "SealedLipsModel" "now" "[I") (by decide +kernel)
  have hin_X5 : ∀ w ∈ wsX50, w ∈ wsX5_table := by decide +kernel
  unfold fnX5_table at hM
  refine lv_iload_n hx hb dX5_table_0 rfl (lv_at hl 1 rfl) ?_
  refine lv_i2l hx hb dX5_table_1 rfl ?_
  refine lv_lconst (v := 1) hx hb dX5_table_2 (by decide) ?_
  refine lv_ldc2 (v := 20) hx hb hown (hts (.constantLong RX5 195 (20)) (by decide +kernel)) dX5_table_3 ?_
  obtain ⟨r1, hc2, hM⟩ := sx_c1_s hM
  refine sx_iS (As := [.long (a1).toInt64, .long (1 : Int64), .long (20 : Int64)]) (rest := []) (wc := []) (wr := [(m_h, .inr (5, [.ref m_now_a, .ref m_tape_a, .int m_typed, .int m_place, .int m_isFault, .ref m_read_a, .ref m_heard_a, .ref m_undone_a, .int m_undos, .ref m_aside_a, .ref m_kept_a, .int m_keptUndos, .int m_isKept, .ref m_lanes_a, .ref m_sizes_a, .ref m_items_a, .ref m_moved_a])), (m_now_a, .inl (cI, 65, .inl m_now)), (m_heard_a, .inl (cI, 8, .inl m_heard)), (m_aside_a, .inl (cI, 65, .inl m_aside))]) (w1 := []) ⟨hx, hb, hml, hown, hts⟩ (mtX5_in l D cI cJ cS H.size (a1).toInt64 (1 : Int64) (20 : Int64) F r1 hc2) (va_cwS 3 hts gX5_table_X5_in rfl rfl rfl (by decide +kernel) ⟨Nat.le_trans (by decide) hRf, Nat.le_trans (by decide) hRl⟩) hK hN hP hD hS hA [] [0, 1, 2, 3] rfl (by decide) rfl (by decide) (by decide) rfl hl.1 rfl (Nat.le_of_ble_eq_true rfl) dX5_table_6 hRc (fun H locs hP hD hS => ?_)
  have hP : va_P D vwCl [(m_h, .inr (5, [.ref m_now_a, .ref m_tape_a, .int m_typed, .int m_place, .int m_isFault, .ref m_read_a, .ref m_heard_a, .ref m_undone_a, .int m_undos, .ref m_aside_a, .ref m_kept_a, .int m_keptUndos, .int m_isKept, .ref m_lanes_a, .ref m_sizes_a, .ref m_items_a, .ref m_moved_a])), (m_now_a, .inl (cI, 65, .inl m_now)), (m_heard_a, .inl (cI, 8, .inl m_heard)), (m_aside_a, .inl (cI, 65, .inl m_aside))] H := hP
  have hD : va_D A [(m_h, .inr (5, [.ref m_now_a, .ref m_tape_a, .int m_typed, .int m_place, .int m_isFault, .ref m_read_a, .ref m_heard_a, .ref m_undone_a, .int m_undos, .ref m_aside_a, .ref m_kept_a, .int m_keptUndos, .int m_isKept, .ref m_lanes_a, .ref m_sizes_a, .ref m_items_a, .ref m_moved_a])), (m_now_a, .inl (cI, 65, .inl m_now)), (m_heard_a, .inl (cI, 8, .inl m_heard)), (m_aside_a, .inl (cI, 65, .inl m_aside))] := hD
  refine lv_if_eq (tgt := 24) hx hb dX5_table_9 (by decide) (fun c3 => ?_) (fun c3 => ?_)
  · replace hM := sx_ift c3 hM
    refine lv_iconst (v := -1) hx hb dX5_table_24 (by decide) ?_
    obtain ⟨rfl, rfl, rfl, rfl⟩ := sx_o4 hM
    exact hret _ _ _ _ dX5_table_25 (hP.sub [0, 1, 2, 3] rfl) (hD.sub [0, 1, 2, 3] (by decide) rfl) hS
  · replace hM := sx_iff c3 hM
    refine lv_iload_n hx hb dX5_table_12 rfl (lv_at hl 2 rfl) ?_
    obtain ⟨r4, hc5, hM⟩ := sx_c1_s hM
    refine sx_iS (As := [.int a2]) (rest := []) (wc := []) (wr := [(m_h, .inr (5, [.ref m_now_a, .ref m_tape_a, .int m_typed, .int m_place, .int m_isFault, .ref m_read_a, .ref m_heard_a, .ref m_undone_a, .int m_undos, .ref m_aside_a, .ref m_kept_a, .int m_keptUndos, .int m_isKept, .ref m_lanes_a, .ref m_sizes_a, .ref m_items_a, .ref m_moved_a])), (m_now_a, .inl (cI, 65, .inl m_now)), (m_heard_a, .inl (cI, 8, .inl m_heard)), (m_aside_a, .inl (cI, 65, .inl m_aside))]) (w1 := []) ⟨hx, hb, hml, hown, hts⟩ (mtX5_isHeat l D cI cJ cS H.size a2 F r4 hc5) (va_cwS 1 hts gX5_table_X5_isHeat rfl rfl rfl (by decide +kernel) ⟨Nat.le_trans (by decide) hRf, Nat.le_trans (by decide) hRl⟩) hK hN hP hD hS hA [] [0, 1, 2, 3] rfl (by decide) rfl (by decide) (by decide) rfl hl.1 rfl (Nat.le_of_ble_eq_true rfl) dX5_table_13 hRc (fun H locs hP hD hS => ?_)
    have hP : va_P D vwCl [(m_h, .inr (5, [.ref m_now_a, .ref m_tape_a, .int m_typed, .int m_place, .int m_isFault, .ref m_read_a, .ref m_heard_a, .ref m_undone_a, .int m_undos, .ref m_aside_a, .ref m_kept_a, .int m_keptUndos, .int m_isKept, .ref m_lanes_a, .ref m_sizes_a, .ref m_items_a, .ref m_moved_a])), (m_now_a, .inl (cI, 65, .inl m_now)), (m_heard_a, .inl (cI, 8, .inl m_heard)), (m_aside_a, .inl (cI, 65, .inl m_aside))] H := hP
    have hD : va_D A [(m_h, .inr (5, [.ref m_now_a, .ref m_tape_a, .int m_typed, .int m_place, .int m_isFault, .ref m_read_a, .ref m_heard_a, .ref m_undone_a, .int m_undos, .ref m_aside_a, .ref m_kept_a, .int m_keptUndos, .int m_isKept, .ref m_lanes_a, .ref m_sizes_a, .ref m_items_a, .ref m_moved_a])), (m_now_a, .inl (cI, 65, .inl m_now)), (m_heard_a, .inl (cI, 8, .inl m_heard)), (m_aside_a, .inl (cI, 65, .inl m_aside))] := hD
    refine lv_if_eq (tgt := 24) hx hb dX5_table_16 (by decide) (fun c6 => ?_) (fun c6 => ?_)
    · replace hM := sx_ift c6 hM
      refine lv_iconst (v := -1) hx hb dX5_table_24 (by decide) ?_
      obtain ⟨rfl, rfl, rfl, rfl⟩ := sx_o4 hM
      exact hret _ _ _ _ dX5_table_25 (hP.sub [0, 1, 2, 3] rfl) (hD.sub [0, 1, 2, 3] (by decide) rfl) hS
    · replace hM := sx_iff c6 hM
      refine lv_iload_n hx hb dX5_table_19 rfl (lv_at hl 3 rfl) ?_
      refine lv_iconst (v := -1) hx hb dX5_table_20 (by decide) ?_
      refine lv_icmp_ge (tgt := 26) hx hb dX5_table_21 (by decide) (fun c7 => ?_) (fun c7 => ?_)
      · replace hM := sx_ift c7 hM
        refine lv_iconst (v := 1) hx hb dX5_table_26 (by decide) ?_
        refine lv_istore (lv' := [(4, .int (1 : Int32)), (0, .ref m_h), (1, .int a1), (2, .int a2), (3, .int a3)]) hx hb dX5_table_27 hl (by decide) rfl (fun ls hl => ?_)
        refine lv_iconst (v := 2) hx hb dX5_table_29 (by decide) ?_
        refine lv_istore (lv' := [(5, .int (2 : Int32)), (4, .int (1 : Int32)), (0, .ref m_h), (1, .int a1), (2, .int a2), (3, .int a3)]) hx hb dX5_table_30 hl (by decide) rfl (fun ls hl => ?_)
        obtain ⟨k_56, ek_56, hM⟩ := sx_lt_s hM
        have hk_56 : ∀ (x8 : Int32) (H : Heap) (locs : List Loc) (ls : Array Slot), k_56 x8 = some (r0, w_m_now, w_m_heard, w_m_aside) → lv_has ls 9 [(0, .ref m_h), (1, .int a1), (2, .int a2), (3, .int a3), (4, .int x8)] → va_P D vwCl [(m_h, .inr (5, [.ref m_now_a, .ref m_tape_a, .int m_typed, .int m_place, .int m_isFault, .ref m_read_a, .ref m_heard_a, .ref m_undone_a, .int m_undos, .ref m_aside_a, .ref m_kept_a, .int m_keptUndos, .int m_isKept, .ref m_lanes_a, .ref m_sizes_a, .ref m_items_a, .ref m_moved_a])), (m_now_a, .inl (cI, 65, .inl m_now)), (m_heard_a, .inl (cI, 8, .inl m_heard)), (m_aside_a, .inl (cI, 65, .inl m_aside))] H → va_D A [(m_h, .inr (5, [.ref m_now_a, .ref m_tape_a, .int m_typed, .int m_place, .int m_isFault, .ref m_read_a, .ref m_heard_a, .ref m_undone_a, .int m_undos, .ref m_aside_a, .ref m_kept_a, .int m_keptUndos, .int m_isKept, .ref m_lanes_a, .ref m_sizes_a, .ref m_items_a, .ref m_moved_a])), (m_now_a, .inl (cI, 65, .inl m_now)), (m_heard_a, .inl (cI, 8, .inl m_heard)), (m_aside_a, .inl (cI, 65, .inl m_aside))] → va_S A H0 H locs → W p l e R s m args below meth c H locs cells slots Q (F0 m 56 ls ([])) := by
          intro x8 H locs ls hM hl hP hD hS
          rw [ek_56] at hM
          refine lv_aload_n hx hb dX5_table_56 rfl (lv_at hl 0 rfl) ?_
          refine va_get (D := D) (ci := 5) (v := .ref m_now_a) (C := RX5) (T := TX5) (N := 17) hx hb hts hin_X5 hown hK hP 0 rfl rfl 0 (by decide) hf_7 (fun _ h9 => h9) rfl dX5_table_57 ?_
          refine lv_iconst (v := 0) hx hb dX5_table_60 (by decide) ?_
          refine va_iald hx hb hK hP 1 0 rfl rfl (sx_ib_s (by decide)) dX5_table_61 ?_
          refine lv_if_ne (tgt := 76) hx hb dX5_table_62 (by decide) (fun c9 => ?_) (fun c9 => ?_)
          · replace hM := sx_iff c9 hM
            refine lv_aload_n hx hb dX5_table_76 rfl (lv_at hl 0 rfl) ?_
            obtain ⟨w10, hc11, hM⟩ := sx_c1_s hM
            refine sx_vV (As := []) (rest := []) (wc := [(m_h, .inr (5, [.ref m_now_a, .ref m_tape_a, .int m_typed, .int m_place, .int m_isFault, .ref m_read_a, .ref m_heard_a, .ref m_undone_a, .int m_undos, .ref m_aside_a, .ref m_kept_a, .int m_keptUndos, .int m_isKept, .ref m_lanes_a, .ref m_sizes_a, .ref m_items_a, .ref m_moved_a])), (m_now_a, .inl (cI, 65, .inl m_now)), (m_aside_a, .inl (cI, 65, .inl m_aside))]) (wr := [(m_heard_a, .inl (cI, 8, .inl m_heard))]) (w1 := [(m_h, .inr (5, [.ref m_now_a, .ref m_tape_a, .int m_typed, .int m_place, .int m_isFault, .ref m_read_a, .ref m_heard_a, .ref m_undone_a, .int m_undos, .ref m_aside_a, .ref m_kept_a, .int m_keptUndos, .int m_isKept, .ref m_lanes_a, .ref m_sizes_a, .ref m_items_a, .ref m_moved_a])), (m_now_a, .inl (cI, 65, .inl m_now)), (m_aside_a, .inl (cI, 65, .inl w10))]) ⟨hx, hb, hml, hown, hts⟩ (mtX5_asides l D cI cJ cS H.size m_h m_now_a m_tape_a m_read_a m_heard_a m_undone_a m_aside_a m_kept_a m_lanes_a m_sizes_a m_items_a m_moved_a m_now m_typed m_place m_isFault m_undos m_aside m_keptUndos m_isKept F w10 hc11) (cwV 0 hts gX5_table_X5_asides rfl rfl rfl (by decide +kernel) ⟨Nat.le_trans (by decide) hRf, Nat.le_trans (by decide) hRl⟩) hK hN hP hD hS hA [0, 1, 3] [2] rfl (by decide) rfl (by decide) (by decide) rfl rfl rfl rfl hl.1 rfl (Nat.le_of_ble_eq_true rfl) dX5_table_77 hRc (fun H locs hP hD hS => ?_)
            have hP : va_P D vwCl [(m_heard_a, .inl (cI, 8, .inl m_heard)), (m_h, .inr (5, [.ref m_now_a, .ref m_tape_a, .int m_typed, .int m_place, .int m_isFault, .ref m_read_a, .ref m_heard_a, .ref m_undone_a, .int m_undos, .ref m_aside_a, .ref m_kept_a, .int m_keptUndos, .int m_isKept, .ref m_lanes_a, .ref m_sizes_a, .ref m_items_a, .ref m_moved_a])), (m_now_a, .inl (cI, 65, .inl m_now)), (m_aside_a, .inl (cI, 65, .inl w10))] H := hP
            have hD : va_D A [(m_heard_a, .inl (cI, 8, .inl m_heard)), (m_h, .inr (5, [.ref m_now_a, .ref m_tape_a, .int m_typed, .int m_place, .int m_isFault, .ref m_read_a, .ref m_heard_a, .ref m_undone_a, .int m_undos, .ref m_aside_a, .ref m_kept_a, .int m_keptUndos, .int m_isKept, .ref m_lanes_a, .ref m_sizes_a, .ref m_items_a, .ref m_moved_a])), (m_now_a, .inl (cI, 65, .inl m_now)), (m_aside_a, .inl (cI, 65, .inl w10))] := hD
            refine lv_iconst (v := 0) hx hb dX5_table_80 (by decide) ?_
            refine lv_istore (lv' := [(5, .int (0 : Int32)), (0, .ref m_h), (1, .int a1), (2, .int a2), (3, .int a3), (4, .int x8)]) hx hb dX5_table_81 hl (by decide) rfl (fun ls hl => ?_)
            refine lv_iconst (v := -1) hx hb dX5_table_83 (by decide) ?_
            refine lv_istore (lv' := [(6, .int (-1 : Int32)), (5, .int (0 : Int32)), (0, .ref m_h), (1, .int a1), (2, .int a2), (3, .int a3), (4, .int x8)]) hx hb dX5_table_84 hl (by decide) rfl (fun ls hl => ?_)
            refine lv_iconst (v := 0) hx hb dX5_table_86 (by decide) ?_
            refine lv_istore (lv' := [(7, .int (0 : Int32)), (6, .int (-1 : Int32)), (5, .int (0 : Int32)), (0, .ref m_h), (1, .int a1), (2, .int a2), (3, .int a3), (4, .int x8)]) hx hb dX5_table_87 hl (by decide) rfl (fun ls hl => ?_)
            obtain ⟨k_160, ek_160, hM⟩ := sx_lt_s hM
            have hk_160 : ∀ (x12 : Int32) (x13 : Int32) (z14 : Nat → Int32) (z15 : Nat → Int32) (H : Heap) (locs : List Loc) (ls : Array Slot), k_160 x12 x13 z14 z15 = some (r0, w_m_now, w_m_heard, w_m_aside) → lv_has ls 9 [(0, .ref m_h), (3, .int a3), (4, .int x8), (5, .int x12), (6, .int x13)] → va_P D vwCl [(m_heard_a, .inl (cI, 8, .inl z15)), (m_h, .inr (5, [.ref m_now_a, .ref m_tape_a, .int m_typed, .int m_place, .int m_isFault, .ref m_read_a, .ref m_heard_a, .ref m_undone_a, .int m_undos, .ref m_aside_a, .ref m_kept_a, .int m_keptUndos, .int m_isKept, .ref m_lanes_a, .ref m_sizes_a, .ref m_items_a, .ref m_moved_a])), (m_now_a, .inl (cI, 65, .inl z14)), (m_aside_a, .inl (cI, 65, .inl w10))] H → va_D A [(m_heard_a, .inl (cI, 8, .inl z15)), (m_h, .inr (5, [.ref m_now_a, .ref m_tape_a, .int m_typed, .int m_place, .int m_isFault, .ref m_read_a, .ref m_heard_a, .ref m_undone_a, .int m_undos, .ref m_aside_a, .ref m_kept_a, .int m_keptUndos, .int m_isKept, .ref m_lanes_a, .ref m_sizes_a, .ref m_items_a, .ref m_moved_a])), (m_now_a, .inl (cI, 65, .inl z14)), (m_aside_a, .inl (cI, 65, .inl w10))] → va_S A H0 H locs → W p l e R s m args below meth c H locs cells slots Q (F0 m 160 ls ([])) := by
              intro x12 x13 z14 z15 H locs ls hM hl hP hD hS
              rw [ek_160] at hM
              refine lv_iload_n hx hb dX5_table_160 rfl (lv_at hl 1 rfl) ?_
              refine lv_if_ge (tgt := 167) hx hb dX5_table_161 (by decide) (fun c16 => ?_) (fun c16 => ?_)
              · replace hM := sx_ift c16 hM
                refine lv_aload_n hx hb dX5_table_167 rfl (lv_at hl 0 rfl) ?_
                refine lv_iload hx hb dX5_table_168 (lv_at hl 3 rfl) ?_
                refine lv_iload hx hb dX5_table_170 (lv_at hl 2 rfl) ?_
                obtain ⟨w17, hc18, hM⟩ := sx_c1_s hM
                refine sx_vV (As := [.int x12, .int x8]) (rest := []) (wc := [(m_h, .inr (5, [.ref m_now_a, .ref m_tape_a, .int m_typed, .int m_place, .int m_isFault, .ref m_read_a, .ref m_heard_a, .ref m_undone_a, .int m_undos, .ref m_aside_a, .ref m_kept_a, .int m_keptUndos, .int m_isKept, .ref m_lanes_a, .ref m_sizes_a, .ref m_items_a, .ref m_moved_a])), (m_now_a, .inl (cI, 65, .inl z14))]) (wr := [(m_heard_a, .inl (cI, 8, .inl z15)), (m_aside_a, .inl (cI, 65, .inl w10))]) (w1 := [(m_h, .inr (5, [.ref m_now_a, .ref m_tape_a, .int m_typed, .int m_place, .int m_isFault, .ref m_read_a, .ref m_heard_a, .ref m_undone_a, .int m_undos, .ref m_aside_a, .ref m_kept_a, .int m_keptUndos, .int m_isKept, .ref m_lanes_a, .ref m_sizes_a, .ref m_items_a, .ref m_moved_a])), (m_now_a, .inl (cI, 65, .inl w17))]) ⟨hx, hb, hml, hown, hts⟩ (mtX5_sits l D cI cJ cS H.size m_h m_now_a m_tape_a m_read_a m_heard_a m_undone_a m_aside_a m_kept_a m_lanes_a m_sizes_a m_items_a m_moved_a z14 m_typed m_place m_isFault m_undos m_keptUndos m_isKept x12 x8 F w17 hc18) (cwV 2 hts gX5_table_X5_sits rfl rfl rfl (by decide +kernel) ⟨Nat.le_trans (by decide) hRf, Nat.le_trans (by decide) hRl⟩) hK hN hP hD hS hA [1, 2] [0, 3] rfl (by decide) rfl (by decide) (by decide) rfl rfl rfl rfl hl.1 rfl (Nat.le_of_ble_eq_true rfl) dX5_table_172 hRc (fun H locs hP hD hS => ?_)
                have hP : va_P D vwCl [(m_heard_a, .inl (cI, 8, .inl z15)), (m_aside_a, .inl (cI, 65, .inl w10)), (m_h, .inr (5, [.ref m_now_a, .ref m_tape_a, .int m_typed, .int m_place, .int m_isFault, .ref m_read_a, .ref m_heard_a, .ref m_undone_a, .int m_undos, .ref m_aside_a, .ref m_kept_a, .int m_keptUndos, .int m_isKept, .ref m_lanes_a, .ref m_sizes_a, .ref m_items_a, .ref m_moved_a])), (m_now_a, .inl (cI, 65, .inl w17))] H := hP
                have hD : va_D A [(m_heard_a, .inl (cI, 8, .inl z15)), (m_aside_a, .inl (cI, 65, .inl w10)), (m_h, .inr (5, [.ref m_now_a, .ref m_tape_a, .int m_typed, .int m_place, .int m_isFault, .ref m_read_a, .ref m_heard_a, .ref m_undone_a, .int m_undos, .ref m_aside_a, .ref m_kept_a, .int m_keptUndos, .int m_isKept, .ref m_lanes_a, .ref m_sizes_a, .ref m_items_a, .ref m_moved_a])), (m_now_a, .inl (cI, 65, .inl w17))] := hD
                refine lv_iload_n hx hb dX5_table_175 rfl (lv_at hl 1 rfl) ?_
                refine lv_aload_n hx hb dX5_table_176 rfl (lv_at hl 0 rfl) ?_
                refine va_get (D := D) (ci := 5) (v := .ref m_now_a) (C := RX5) (T := TX5) (N := 17) hx hb hts hin_X5 hown hK hP 2 rfl rfl 0 (by decide) hf_7 (fun _ h9 => h9) rfl dX5_table_177 ?_
                refine lv_iconst (v := 0) hx hb dX5_table_180 (by decide) ?_
                refine va_iald hx hb hK hP 3 0 rfl rfl (sx_ib_s (by decide)) dX5_table_181 ?_
                refine lv_icmp_ge (tgt := 197) hx hb dX5_table_182 (by decide) (fun c19 => ?_) (fun c19 => ?_)
                · replace hM := sx_ift c19 hM
                  refine lv_bipush (v := -4) hx hb dX5_table_197 (by decide) ?_
                  refine lv_istore (lv' := [(7, .int (-4 : Int32)), (0, .ref m_h), (3, .int a3), (4, .int x8), (5, .int x12), (6, .int x13)]) hx hb dX5_table_199 hl (by decide) rfl (fun ls hl => ?_)
                  refine lv_aload_n hx hb dX5_table_201 rfl (lv_at hl 1 rfl) ?_
                  obtain ⟨w20, hc21, hM⟩ := sx_c1_s hM
                  refine sx_vV (As := []) (rest := []) (wc := [(m_h, .inr (5, [.ref m_now_a, .ref m_tape_a, .int m_typed, .int m_place, .int m_isFault, .ref m_read_a, .ref m_heard_a, .ref m_undone_a, .int m_undos, .ref m_aside_a, .ref m_kept_a, .int m_keptUndos, .int m_isKept, .ref m_lanes_a, .ref m_sizes_a, .ref m_items_a, .ref m_moved_a])), (m_now_a, .inl (cI, 65, .inl w17)), (m_aside_a, .inl (cI, 65, .inl w10))]) (wr := [(m_heard_a, .inl (cI, 8, .inl z15))]) (w1 := [(m_h, .inr (5, [.ref m_now_a, .ref m_tape_a, .int m_typed, .int m_place, .int m_isFault, .ref m_read_a, .ref m_heard_a, .ref m_undone_a, .int m_undos, .ref m_aside_a, .ref m_kept_a, .int m_keptUndos, .int m_isKept, .ref m_lanes_a, .ref m_sizes_a, .ref m_items_a, .ref m_moved_a])), (m_now_a, .inl (cI, 65, .inl w20)), (m_aside_a, .inl (cI, 65, .inl w10))]) ⟨hx, hb, hml, hown, hts⟩ (mtX5_backs l D cI cJ cS H.size m_h m_now_a m_tape_a m_read_a m_heard_a m_undone_a m_aside_a m_kept_a m_lanes_a m_sizes_a m_items_a m_moved_a w17 m_typed m_place m_isFault m_undos w10 m_keptUndos m_isKept F w20 hc21) (cwV 0 hts gX5_table_X5_backs rfl rfl rfl (by decide +kernel) ⟨Nat.le_trans (by decide) hRf, Nat.le_trans (by decide) hRl⟩) hK hN hP hD hS hA [2, 3, 1] [0] rfl (by decide) rfl (by decide) (by decide) rfl rfl rfl rfl hl.1 rfl (Nat.le_of_ble_eq_true rfl) dX5_table_202 hRc (fun H locs hP hD hS => ?_)
                  have hP : va_P D vwCl [(m_heard_a, .inl (cI, 8, .inl z15)), (m_h, .inr (5, [.ref m_now_a, .ref m_tape_a, .int m_typed, .int m_place, .int m_isFault, .ref m_read_a, .ref m_heard_a, .ref m_undone_a, .int m_undos, .ref m_aside_a, .ref m_kept_a, .int m_keptUndos, .int m_isKept, .ref m_lanes_a, .ref m_sizes_a, .ref m_items_a, .ref m_moved_a])), (m_now_a, .inl (cI, 65, .inl w20)), (m_aside_a, .inl (cI, 65, .inl w10))] H := hP
                  have hD : va_D A [(m_heard_a, .inl (cI, 8, .inl z15)), (m_h, .inr (5, [.ref m_now_a, .ref m_tape_a, .int m_typed, .int m_place, .int m_isFault, .ref m_read_a, .ref m_heard_a, .ref m_undone_a, .int m_undos, .ref m_aside_a, .ref m_kept_a, .int m_keptUndos, .int m_isKept, .ref m_lanes_a, .ref m_sizes_a, .ref m_items_a, .ref m_moved_a])), (m_now_a, .inl (cI, 65, .inl w20)), (m_aside_a, .inl (cI, 65, .inl w10))] := hD
                  refine lv_iload hx hb dX5_table_205 (lv_at hl 0 rfl) ?_
                  obtain ⟨rfl, rfl, rfl, rfl⟩ := sx_o4 hM
                  exact hret _ _ _ _ dX5_table_207 (hP.sub [1, 2, 0, 3] rfl) (hD.sub [1, 2, 0, 3] (by decide) rfl) hS
                · replace hM := sx_iff c19 hM
                  refine lv_aload_n hx hb dX5_table_185 rfl (lv_at hl 0 rfl) ?_
                  refine va_get (D := D) (ci := 5) (v := .ref m_now_a) (C := RX5) (T := TX5) (N := 17) hx hb hts hin_X5 hown hK hP 2 rfl rfl 0 (by decide) hf_7 (fun _ h9 => h9) rfl dX5_table_186 ?_
                  refine lv_bipush (v := 11) hx hb dX5_table_189 (by decide) ?_
                  refine lv_iload_n hx hb dX5_table_191 rfl (lv_at hl 1 rfl) ?_
                  refine lv_iadd hx hb dX5_table_192 ?_
                  obtain ⟨g22, hM⟩ := sx_gd_s hM
                  refine va_iald hx hb hK hP 3 0 rfl rfl (sx_ib_s g22) dX5_table_193 ?_
                  refine lv_goto (tgt := 199) hx hb dX5_table_194 (by decide) ?_
                  obtain ⟨v23, ev23, hM⟩ := sx_nm_s hM
                  refine W.eq (g2 := F0 m 199 ls (.int v23 :: [])) (by subst ev23; rfl) ?_
                  refine lv_istore (lv' := [(7, .int v23), (0, .ref m_h), (3, .int a3), (4, .int x8), (5, .int x12), (6, .int x13)]) hx hb dX5_table_199 hl (by decide) rfl (fun ls hl => ?_)
                  refine lv_aload_n hx hb dX5_table_201 rfl (lv_at hl 1 rfl) ?_
                  obtain ⟨w24, hc25, hM⟩ := sx_c1_s hM
                  refine sx_vV (As := []) (rest := []) (wc := [(m_h, .inr (5, [.ref m_now_a, .ref m_tape_a, .int m_typed, .int m_place, .int m_isFault, .ref m_read_a, .ref m_heard_a, .ref m_undone_a, .int m_undos, .ref m_aside_a, .ref m_kept_a, .int m_keptUndos, .int m_isKept, .ref m_lanes_a, .ref m_sizes_a, .ref m_items_a, .ref m_moved_a])), (m_now_a, .inl (cI, 65, .inl w17)), (m_aside_a, .inl (cI, 65, .inl w10))]) (wr := [(m_heard_a, .inl (cI, 8, .inl z15))]) (w1 := [(m_h, .inr (5, [.ref m_now_a, .ref m_tape_a, .int m_typed, .int m_place, .int m_isFault, .ref m_read_a, .ref m_heard_a, .ref m_undone_a, .int m_undos, .ref m_aside_a, .ref m_kept_a, .int m_keptUndos, .int m_isKept, .ref m_lanes_a, .ref m_sizes_a, .ref m_items_a, .ref m_moved_a])), (m_now_a, .inl (cI, 65, .inl w24)), (m_aside_a, .inl (cI, 65, .inl w10))]) ⟨hx, hb, hml, hown, hts⟩ (mtX5_backs l D cI cJ cS H.size m_h m_now_a m_tape_a m_read_a m_heard_a m_undone_a m_aside_a m_kept_a m_lanes_a m_sizes_a m_items_a m_moved_a w17 m_typed m_place m_isFault m_undos w10 m_keptUndos m_isKept F w24 hc25) (cwV 0 hts gX5_table_X5_backs rfl rfl rfl (by decide +kernel) ⟨Nat.le_trans (by decide) hRf, Nat.le_trans (by decide) hRl⟩) hK hN hP hD hS hA [2, 3, 1] [0] rfl (by decide) rfl (by decide) (by decide) rfl rfl rfl rfl hl.1 rfl (Nat.le_of_ble_eq_true rfl) dX5_table_202 hRc (fun H locs hP hD hS => ?_)
                  have hP : va_P D vwCl [(m_heard_a, .inl (cI, 8, .inl z15)), (m_h, .inr (5, [.ref m_now_a, .ref m_tape_a, .int m_typed, .int m_place, .int m_isFault, .ref m_read_a, .ref m_heard_a, .ref m_undone_a, .int m_undos, .ref m_aside_a, .ref m_kept_a, .int m_keptUndos, .int m_isKept, .ref m_lanes_a, .ref m_sizes_a, .ref m_items_a, .ref m_moved_a])), (m_now_a, .inl (cI, 65, .inl w24)), (m_aside_a, .inl (cI, 65, .inl w10))] H := hP
                  have hD : va_D A [(m_heard_a, .inl (cI, 8, .inl z15)), (m_h, .inr (5, [.ref m_now_a, .ref m_tape_a, .int m_typed, .int m_place, .int m_isFault, .ref m_read_a, .ref m_heard_a, .ref m_undone_a, .int m_undos, .ref m_aside_a, .ref m_kept_a, .int m_keptUndos, .int m_isKept, .ref m_lanes_a, .ref m_sizes_a, .ref m_items_a, .ref m_moved_a])), (m_now_a, .inl (cI, 65, .inl w24)), (m_aside_a, .inl (cI, 65, .inl w10))] := hD
                  refine lv_iload hx hb dX5_table_205 (lv_at hl 0 rfl) ?_
                  obtain ⟨rfl, rfl, rfl, rfl⟩ := sx_o4 hM
                  exact hret _ _ _ _ dX5_table_207 (hP.sub [1, 2, 0, 3] rfl) (hD.sub [1, 2, 0, 3] (by decide) rfl) hS
              · replace hM := sx_iff c16 hM
                refine lv_iload hx hb dX5_table_164 (lv_at hl 4 rfl) ?_
                obtain ⟨rfl, rfl, rfl, rfl⟩ := sx_o4 hM
                exact hret _ _ _ _ dX5_table_166 (hP.sub [1, 2, 0, 3] rfl) (hD.sub [1, 2, 0, 3] (by decide) rfl) hS
            have lp_89 : ∀ (n : Nat) (x26 : Int32) (x27 : Int32) (x28 : Int32) (z29 : Nat → Int32) (z30 : Nat → Int32) (H : Heap) (locs : List Loc) (ls : Array Slot), sx_lp5 (bdX5_table_89 F a1 a2 x8 w10 k_160) n x26 x27 x28 z29 z30 = some (r0, w_m_now, w_m_heard, w_m_aside) → lv_has ls 9 [(0, .ref m_h), (1, .int a1), (2, .int a2), (3, .int a3), (4, .int x8), (5, .int x26), (6, .int x27), (7, .int x28)] → va_P D vwCl [(m_heard_a, .inl (cI, 8, .inl z30)), (m_h, .inr (5, [.ref m_now_a, .ref m_tape_a, .int m_typed, .int m_place, .int m_isFault, .ref m_read_a, .ref m_heard_a, .ref m_undone_a, .int m_undos, .ref m_aside_a, .ref m_kept_a, .int m_keptUndos, .int m_isKept, .ref m_lanes_a, .ref m_sizes_a, .ref m_items_a, .ref m_moved_a])), (m_now_a, .inl (cI, 65, .inl z29)), (m_aside_a, .inl (cI, 65, .inl w10))] H → va_D A [(m_heard_a, .inl (cI, 8, .inl z30)), (m_h, .inr (5, [.ref m_now_a, .ref m_tape_a, .int m_typed, .int m_place, .int m_isFault, .ref m_read_a, .ref m_heard_a, .ref m_undone_a, .int m_undos, .ref m_aside_a, .ref m_kept_a, .int m_keptUndos, .int m_isKept, .ref m_lanes_a, .ref m_sizes_a, .ref m_items_a, .ref m_moved_a])), (m_now_a, .inl (cI, 65, .inl z29)), (m_aside_a, .inl (cI, 65, .inl w10))] → va_S A H0 H locs → W p l e R s m args below meth c H locs cells slots Q (F0 m 89 ls ([])) := by
              intro n
              induction n with
              | zero => intro x26 x27 x28 z29 z30 H locs ls hM; exact (sx_lp5_0 hM).elim
              | succ n ih =>
                intro x26 x27 x28 z29 z30 H locs ls hM hl hP hD hS
                have hM : bdX5_table_89 F a1 a2 x8 w10 k_160 (sx_lp5 (bdX5_table_89 F a1 a2 x8 w10 k_160) n) x26 x27 x28 z29 z30 = some (r0, w_m_now, w_m_heard, w_m_aside) := hM
                generalize sx_lp5 (bdX5_table_89 F a1 a2 x8 w10 k_160) n = r_89 at hM ih
                unfold bdX5_table_89 at hM
                refine lv_iload hx hb dX5_table_89 (lv_at hl 7 rfl) ?_
                refine lv_iload hx hb dX5_table_91 (lv_at hl 4 rfl) ?_
                refine lv_icmp_ge (tgt := 160) hx hb dX5_table_93 (by decide) (fun c31 => ?_) (fun c31 => ?_)
                · replace hM := sx_ift c31 hM
                  exact hk_160 x26 x27 z29 z30 _ _ _ hM (lv_sub hl [0, 3, 4, 5, 6] rfl) (hP.sub [0, 1, 2, 3] rfl) (hD.sub [0, 1, 2, 3] (by decide) rfl) hS
                · replace hM := sx_iff c31 hM
                  refine lv_aload_n hx hb dX5_table_96 rfl (lv_at hl 0 rfl) ?_
                  refine lv_iload hx hb dX5_table_97 (lv_at hl 7 rfl) ?_
                  refine lv_iload hx hb dX5_table_99 (lv_at hl 4 rfl) ?_
                  obtain ⟨w32, hc33, hM⟩ := sx_c1_s hM
                  refine sx_vV (As := [.int x28, .int x8]) (rest := []) (wc := [(m_h, .inr (5, [.ref m_now_a, .ref m_tape_a, .int m_typed, .int m_place, .int m_isFault, .ref m_read_a, .ref m_heard_a, .ref m_undone_a, .int m_undos, .ref m_aside_a, .ref m_kept_a, .int m_keptUndos, .int m_isKept, .ref m_lanes_a, .ref m_sizes_a, .ref m_items_a, .ref m_moved_a])), (m_now_a, .inl (cI, 65, .inl z29))]) (wr := [(m_heard_a, .inl (cI, 8, .inl z30)), (m_aside_a, .inl (cI, 65, .inl w10))]) (w1 := [(m_h, .inr (5, [.ref m_now_a, .ref m_tape_a, .int m_typed, .int m_place, .int m_isFault, .ref m_read_a, .ref m_heard_a, .ref m_undone_a, .int m_undos, .ref m_aside_a, .ref m_kept_a, .int m_keptUndos, .int m_isKept, .ref m_lanes_a, .ref m_sizes_a, .ref m_items_a, .ref m_moved_a])), (m_now_a, .inl (cI, 65, .inl w32))]) ⟨hx, hb, hml, hown, hts⟩ (mtX5_sits l D cI cJ cS H.size m_h m_now_a m_tape_a m_read_a m_heard_a m_undone_a m_aside_a m_kept_a m_lanes_a m_sizes_a m_items_a m_moved_a z29 m_typed m_place m_isFault m_undos m_keptUndos m_isKept x28 x8 F w32 hc33) (cwV 2 hts gX5_table_X5_sits rfl rfl rfl (by decide +kernel) ⟨Nat.le_trans (by decide) hRf, Nat.le_trans (by decide) hRl⟩) hK hN hP hD hS hA [1, 2] [0, 3] rfl (by decide) rfl (by decide) (by decide) rfl rfl rfl rfl hl.1 rfl (Nat.le_of_ble_eq_true rfl) dX5_table_101 hRc (fun H locs hP hD hS => ?_)
                  have hP : va_P D vwCl [(m_heard_a, .inl (cI, 8, .inl z30)), (m_aside_a, .inl (cI, 65, .inl w10)), (m_h, .inr (5, [.ref m_now_a, .ref m_tape_a, .int m_typed, .int m_place, .int m_isFault, .ref m_read_a, .ref m_heard_a, .ref m_undone_a, .int m_undos, .ref m_aside_a, .ref m_kept_a, .int m_keptUndos, .int m_isKept, .ref m_lanes_a, .ref m_sizes_a, .ref m_items_a, .ref m_moved_a])), (m_now_a, .inl (cI, 65, .inl w32))] H := hP
                  have hD : va_D A [(m_heard_a, .inl (cI, 8, .inl z30)), (m_aside_a, .inl (cI, 65, .inl w10)), (m_h, .inr (5, [.ref m_now_a, .ref m_tape_a, .int m_typed, .int m_place, .int m_isFault, .ref m_read_a, .ref m_heard_a, .ref m_undone_a, .int m_undos, .ref m_aside_a, .ref m_kept_a, .int m_keptUndos, .int m_isKept, .ref m_lanes_a, .ref m_sizes_a, .ref m_items_a, .ref m_moved_a])), (m_now_a, .inl (cI, 65, .inl w32))] := hD
                  refine lv_aload_n hx hb dX5_table_104 rfl (lv_at hl 0 rfl) ?_
                  refine lv_iload_n hx hb dX5_table_105 rfl (lv_at hl 1 rfl) ?_
                  refine lv_iload_n hx hb dX5_table_106 rfl (lv_at hl 2 rfl) ?_
                  obtain ⟨r34, w35, w36, hc37, hM⟩ := sx_c3_s hM
                  refine sx_iV (As := [.int a1, .int a2]) (rest := []) (wc := [(m_h, .inr (5, [.ref m_now_a, .ref m_tape_a, .int m_typed, .int m_place, .int m_isFault, .ref m_read_a, .ref m_heard_a, .ref m_undone_a, .int m_undos, .ref m_aside_a, .ref m_kept_a, .int m_keptUndos, .int m_isKept, .ref m_lanes_a, .ref m_sizes_a, .ref m_items_a, .ref m_moved_a])), (m_now_a, .inl (cI, 65, .inl w32)), (m_heard_a, .inl (cI, 8, .inl z30)), (m_aside_a, .inl (cI, 65, .inl w10))]) (wr := []) (w1 := [(m_h, .inr (5, [.ref m_now_a, .ref m_tape_a, .int m_typed, .int m_place, .int m_isFault, .ref m_read_a, .ref m_heard_a, .ref m_undone_a, .int m_undos, .ref m_aside_a, .ref m_kept_a, .int m_keptUndos, .int m_isKept, .ref m_lanes_a, .ref m_sizes_a, .ref m_items_a, .ref m_moved_a])), (m_now_a, .inl (cI, 65, .inl w35)), (m_heard_a, .inl (cI, 8, .inl w36)), (m_aside_a, .inl (cI, 65, .inl w10))]) ⟨hx, hb, hml, hown, hts⟩ (mtX5_leaksIn l D cI cJ cS H.size m_h m_now_a m_tape_a m_read_a m_heard_a m_undone_a m_aside_a m_kept_a m_lanes_a m_sizes_a m_items_a m_moved_a w32 m_typed m_place m_isFault z30 m_undos w10 m_keptUndos m_isKept a1 a2 F r34 w35 w36 hc37) (cwV 2 hts gX5_table_X5_leaksIn rfl rfl rfl (by decide +kernel) ⟨Nat.le_trans (by decide) hRf, Nat.le_trans (by decide) hRl⟩) hK hN hP hD hS hA [2, 3, 0, 1] [] rfl (by decide) rfl (by decide) (by decide) rfl rfl rfl rfl hl.1 rfl (Nat.le_of_ble_eq_true rfl) dX5_table_107 hRc (fun H locs hP hD hS => ?_)
                  have hP : va_P D vwCl [(m_h, .inr (5, [.ref m_now_a, .ref m_tape_a, .int m_typed, .int m_place, .int m_isFault, .ref m_read_a, .ref m_heard_a, .ref m_undone_a, .int m_undos, .ref m_aside_a, .ref m_kept_a, .int m_keptUndos, .int m_isKept, .ref m_lanes_a, .ref m_sizes_a, .ref m_items_a, .ref m_moved_a])), (m_now_a, .inl (cI, 65, .inl w35)), (m_heard_a, .inl (cI, 8, .inl w36)), (m_aside_a, .inl (cI, 65, .inl w10))] H := hP
                  have hD : va_D A [(m_h, .inr (5, [.ref m_now_a, .ref m_tape_a, .int m_typed, .int m_place, .int m_isFault, .ref m_read_a, .ref m_heard_a, .ref m_undone_a, .int m_undos, .ref m_aside_a, .ref m_kept_a, .int m_keptUndos, .int m_isKept, .ref m_lanes_a, .ref m_sizes_a, .ref m_items_a, .ref m_moved_a])), (m_now_a, .inl (cI, 65, .inl w35)), (m_heard_a, .inl (cI, 8, .inl w36)), (m_aside_a, .inl (cI, 65, .inl w10))] := hD
                  refine lv_istore (lv' := [(8, .int r34), (0, .ref m_h), (1, .int a1), (2, .int a2), (3, .int a3), (4, .int x8), (5, .int x26), (6, .int x27), (7, .int x28)]) hx hb dX5_table_110 hl (by decide) rfl (fun ls hl => ?_)
                  refine lv_iload hx hb dX5_table_112 (lv_at hl 7 rfl) ?_
                  obtain ⟨k_131, ek_131, hM⟩ := sx_lt_s hM
                  have hk_131 : ∀ (y38 : Int32) (H : Heap) (locs : List Loc) (ls : Array Slot), k_131 y38 = some (r0, w_m_now, w_m_heard, w_m_aside) → lv_has ls 9 [(0, .ref m_h), (1, .int a1), (2, .int a2), (3, .int a3), (4, .int x8), (6, .int x27), (7, .int x28), (8, .int r34)] → va_P D vwCl [(m_h, .inr (5, [.ref m_now_a, .ref m_tape_a, .int m_typed, .int m_place, .int m_isFault, .ref m_read_a, .ref m_heard_a, .ref m_undone_a, .int m_undos, .ref m_aside_a, .ref m_kept_a, .int m_keptUndos, .int m_isKept, .ref m_lanes_a, .ref m_sizes_a, .ref m_items_a, .ref m_moved_a])), (m_now_a, .inl (cI, 65, .inl w35)), (m_heard_a, .inl (cI, 8, .inl w36)), (m_aside_a, .inl (cI, 65, .inl w10))] H → va_D A [(m_h, .inr (5, [.ref m_now_a, .ref m_tape_a, .int m_typed, .int m_place, .int m_isFault, .ref m_read_a, .ref m_heard_a, .ref m_undone_a, .int m_undos, .ref m_aside_a, .ref m_kept_a, .int m_keptUndos, .int m_isKept, .ref m_lanes_a, .ref m_sizes_a, .ref m_items_a, .ref m_moved_a])), (m_now_a, .inl (cI, 65, .inl w35)), (m_heard_a, .inl (cI, 8, .inl w36)), (m_aside_a, .inl (cI, 65, .inl w10))] → va_S A H0 H locs → W p l e R s m args below meth c H locs cells slots Q (F0 m 131 ls (.int y38 :: [])) := by
                    intro y38 H locs ls hM hl hP hD hS
                    rw [ek_131] at hM
                    refine lv_istore (lv' := [(5, .int y38), (0, .ref m_h), (1, .int a1), (2, .int a2), (3, .int a3), (4, .int x8), (6, .int x27), (7, .int x28), (8, .int r34)]) hx hb dX5_table_131 hl (by decide) rfl (fun ls hl => ?_)
                    refine lv_iload hx hb dX5_table_133 (lv_at hl 6 rfl) ?_
                    obtain ⟨k_152, ek_152, hM⟩ := sx_lt_s hM
                    have hk_152 : ∀ (y39 : Int32) (H : Heap) (locs : List Loc) (ls : Array Slot), k_152 y39 = some (r0, w_m_now, w_m_heard, w_m_aside) → lv_has ls 9 [(0, .ref m_h), (1, .int a1), (2, .int a2), (3, .int a3), (4, .int x8), (5, .int y38), (7, .int x28)] → va_P D vwCl [(m_h, .inr (5, [.ref m_now_a, .ref m_tape_a, .int m_typed, .int m_place, .int m_isFault, .ref m_read_a, .ref m_heard_a, .ref m_undone_a, .int m_undos, .ref m_aside_a, .ref m_kept_a, .int m_keptUndos, .int m_isKept, .ref m_lanes_a, .ref m_sizes_a, .ref m_items_a, .ref m_moved_a])), (m_now_a, .inl (cI, 65, .inl w35)), (m_heard_a, .inl (cI, 8, .inl w36)), (m_aside_a, .inl (cI, 65, .inl w10))] H → va_D A [(m_h, .inr (5, [.ref m_now_a, .ref m_tape_a, .int m_typed, .int m_place, .int m_isFault, .ref m_read_a, .ref m_heard_a, .ref m_undone_a, .int m_undos, .ref m_aside_a, .ref m_kept_a, .int m_keptUndos, .int m_isKept, .ref m_lanes_a, .ref m_sizes_a, .ref m_items_a, .ref m_moved_a])), (m_now_a, .inl (cI, 65, .inl w35)), (m_heard_a, .inl (cI, 8, .inl w36)), (m_aside_a, .inl (cI, 65, .inl w10))] → va_S A H0 H locs → W p l e R s m args below meth c H locs cells slots Q (F0 m 152 ls (.int y39 :: [])) := by
                      intro y39 H locs ls hM hl hP hD hS
                      rw [ek_152] at hM
                      refine lv_istore (lv' := [(6, .int y39), (0, .ref m_h), (1, .int a1), (2, .int a2), (3, .int a3), (4, .int x8), (5, .int y38), (7, .int x28)]) hx hb dX5_table_152 hl (by decide) rfl (fun ls hl => ?_)
                      obtain ⟨v40, ev40, hM⟩ := sx_nm_s hM
                      refine lv_iinc (v := v40) (lv' := [(7, .int v40), (6, .int y39), (0, .ref m_h), (1, .int a1), (2, .int a2), (3, .int a3), (4, .int x8), (5, .int y38)]) hx hb dX5_table_154 hl (k := 7) rfl (by rw [ev40]; rfl) (by decide) rfl (fun ls hl => ?_)
                      refine lv_goto (tgt := 89) hx hb dX5_table_157 (by decide) ?_
                      exact ih y38 y39 v40 w35 w36 _ _ _ hM (lv_sub hl [2, 3, 4, 5, 6, 7, 1, 0] rfl) (hP.sub [2, 0, 1, 3] rfl) (hD.sub [2, 0, 1, 3] (by decide) rfl) hS
                    refine lv_if_lt (tgt := 145) hx hb dX5_table_135 (by decide) (fun c41 => ?_) (fun c41 => ?_)
                    · replace hM := sx_ift c41 hM
                      refine lv_iload hx hb dX5_table_145 (lv_at hl 8 rfl) ?_
                      refine lv_goto (tgt := 152) hx hb dX5_table_147 (by decide) ?_
                      exact hk_152 r34 _ _ _ hM (lv_sub hl [1, 2, 3, 4, 5, 0, 7] rfl) (hP.sub [0, 1, 2, 3] rfl) (hD.sub [0, 1, 2, 3] (by decide) rfl) hS
                    · replace hM := sx_iff c41 hM
                      refine lv_iload hx hb dX5_table_138 (lv_at hl 8 rfl) ?_
                      refine lv_iload hx hb dX5_table_140 (lv_at hl 6 rfl) ?_
                      refine lv_icmp_ge (tgt := 150) hx hb dX5_table_142 (by decide) (fun c42 => ?_) (fun c42 => ?_)
                      · replace hM := sx_ift c42 hM
                        refine lv_iload hx hb dX5_table_150 (lv_at hl 6 rfl) ?_
                        exact hk_152 x27 _ _ _ hM (lv_sub hl [1, 2, 3, 4, 5, 0, 7] rfl) (hP.sub [0, 1, 2, 3] rfl) (hD.sub [0, 1, 2, 3] (by decide) rfl) hS
                      · replace hM := sx_iff c42 hM
                        refine lv_iload hx hb dX5_table_145 (lv_at hl 8 rfl) ?_
                        refine lv_goto (tgt := 152) hx hb dX5_table_147 (by decide) ?_
                        exact hk_152 r34 _ _ _ hM (lv_sub hl [1, 2, 3, 4, 5, 0, 7] rfl) (hP.sub [0, 1, 2, 3] rfl) (hD.sub [0, 1, 2, 3] (by decide) rfl) hS
                  refine lv_if_lt (tgt := 124) hx hb dX5_table_114 (by decide) (fun c43 => ?_) (fun c43 => ?_)
                  · replace hM := sx_ift c43 hM
                    refine lv_iload hx hb dX5_table_124 (lv_at hl 8 rfl) ?_
                    refine lv_goto (tgt := 131) hx hb dX5_table_126 (by decide) ?_
                    exact hk_131 x28 _ _ _ hM (lv_sub hl [1, 2, 3, 4, 5, 7, 8, 0] rfl) (hP.sub [0, 1, 2, 3] rfl) (hD.sub [0, 1, 2, 3] (by decide) rfl) hS
                  · replace hM := sx_iff c43 hM
                    refine lv_iload hx hb dX5_table_117 (lv_at hl 0 rfl) ?_
                    refine lv_iload hx hb dX5_table_119 (lv_at hl 7 rfl) ?_
                    refine lv_icmp_ge (tgt := 129) hx hb dX5_table_121 (by decide) (fun c44 => ?_) (fun c44 => ?_)
                    · replace hM := sx_ift c44 hM
                      refine lv_iload hx hb dX5_table_129 (lv_at hl 6 rfl) ?_
                      exact hk_131 x26 _ _ _ hM (lv_sub hl [1, 2, 3, 4, 5, 7, 8, 0] rfl) (hP.sub [0, 1, 2, 3] rfl) (hD.sub [0, 1, 2, 3] (by decide) rfl) hS
                    · replace hM := sx_iff c44 hM
                      refine lv_iload hx hb dX5_table_124 (lv_at hl 8 rfl) ?_
                      refine lv_goto (tgt := 131) hx hb dX5_table_126 (by decide) ?_
                      exact hk_131 x28 _ _ _ hM (lv_sub hl [1, 2, 3, 4, 5, 7, 8, 0] rfl) (hP.sub [0, 1, 2, 3] rfl) (hD.sub [0, 1, 2, 3] (by decide) rfl) hS
            exact lp_89 F (0 : Int32) (-1 : Int32) (0 : Int32) m_now m_heard _ _ _ hM (lv_sub hl [3, 4, 5, 6, 7, 2, 1, 0] rfl) (hP.sub [0, 1, 2, 3] rfl) (hD.sub [0, 1, 2, 3] (by decide) rfl) hS
          · replace hM := sx_ift c9 hM
            refine lv_iload_n hx hb dX5_table_65 rfl (lv_at hl 3 rfl) ?_
            refine lv_if_ge (tgt := 73) hx hb dX5_table_66 (by decide) (fun c45 => ?_) (fun c45 => ?_)
            · replace hM := sx_ift c45 hM
              refine lv_bipush (v := -4) hx hb dX5_table_73 (by decide) ?_
              obtain ⟨rfl, rfl, rfl, rfl⟩ := sx_o4 hM
              exact hret _ _ _ _ dX5_table_75 (hP.sub [0, 1, 2, 3] rfl) (hD.sub [0, 1, 2, 3] (by decide) rfl) hS
            · replace hM := sx_iff c45 hM
              refine lv_iconst (v := 0) hx hb dX5_table_69 (by decide) ?_
              refine lv_goto (tgt := 75) hx hb dX5_table_70 (by decide) ?_
              obtain ⟨rfl, rfl, rfl, rfl⟩ := sx_o4 hM
              exact hret _ _ _ _ dX5_table_75 (hP.sub [0, 1, 2, 3] rfl) (hD.sub [0, 1, 2, 3] (by decide) rfl) hS
        have lp_32 : ∀ (n : Nat) (x46 : Int32) (x47 : Int32) (H : Heap) (locs : List Loc) (ls : Array Slot), sx_lp2 (bdX5_table_32 F m_now k_56) n x46 x47 = some (r0, w_m_now, w_m_heard, w_m_aside) → lv_has ls 9 [(0, .ref m_h), (1, .int a1), (2, .int a2), (3, .int a3), (4, .int x46), (5, .int x47)] → va_P D vwCl [(m_h, .inr (5, [.ref m_now_a, .ref m_tape_a, .int m_typed, .int m_place, .int m_isFault, .ref m_read_a, .ref m_heard_a, .ref m_undone_a, .int m_undos, .ref m_aside_a, .ref m_kept_a, .int m_keptUndos, .int m_isKept, .ref m_lanes_a, .ref m_sizes_a, .ref m_items_a, .ref m_moved_a])), (m_now_a, .inl (cI, 65, .inl m_now)), (m_heard_a, .inl (cI, 8, .inl m_heard)), (m_aside_a, .inl (cI, 65, .inl m_aside))] H → va_D A [(m_h, .inr (5, [.ref m_now_a, .ref m_tape_a, .int m_typed, .int m_place, .int m_isFault, .ref m_read_a, .ref m_heard_a, .ref m_undone_a, .int m_undos, .ref m_aside_a, .ref m_kept_a, .int m_keptUndos, .int m_isKept, .ref m_lanes_a, .ref m_sizes_a, .ref m_items_a, .ref m_moved_a])), (m_now_a, .inl (cI, 65, .inl m_now)), (m_heard_a, .inl (cI, 8, .inl m_heard)), (m_aside_a, .inl (cI, 65, .inl m_aside))] → va_S A H0 H locs → W p l e R s m args below meth c H locs cells slots Q (F0 m 32 ls ([])) := by
          intro n
          induction n with
          | zero => intro x46 x47 H locs ls hM; exact (sx_lp2_0 hM).elim
          | succ n ih =>
            intro x46 x47 H locs ls hM hl hP hD hS
            have hM : bdX5_table_32 F m_now k_56 (sx_lp2 (bdX5_table_32 F m_now k_56) n) x46 x47 = some (r0, w_m_now, w_m_heard, w_m_aside) := hM
            generalize sx_lp2 (bdX5_table_32 F m_now k_56) n = r_32 at hM ih
            unfold bdX5_table_32 at hM
            refine lv_iload hx hb dX5_table_32 (lv_at hl 5 rfl) ?_
            refine lv_aload_n hx hb dX5_table_34 rfl (lv_at hl 0 rfl) ?_
            refine va_get (D := D) (ci := 5) (v := .ref m_now_a) (C := RX5) (T := TX5) (N := 17) hx hb hts hin_X5 hown hK hP 0 rfl rfl 0 (by decide) hf_7 (fun _ h9 => h9) rfl dX5_table_35 ?_
            refine lv_iconst (v := 0) hx hb dX5_table_38 (by decide) ?_
            refine va_iald hx hb hK hP 1 0 rfl rfl (sx_ib_s (by decide)) dX5_table_39 ?_
            refine lv_icmp_ge (tgt := 56) hx hb dX5_table_40 (by decide) (fun c48 => ?_) (fun c48 => ?_)
            · replace hM := sx_ift c48 hM
              exact hk_56 x46 _ _ _ hM (lv_sub hl [0, 1, 2, 3, 4] rfl) (hP.sub [0, 1, 2, 3] rfl) (hD.sub [0, 1, 2, 3] (by decide) rfl) hS
            · replace hM := sx_iff c48 hM
              refine lv_iload hx hb dX5_table_43 (lv_at hl 4 rfl) ?_
              refine lv_iload hx hb dX5_table_45 (lv_at hl 5 rfl) ?_
              refine lv_imul hx hb dX5_table_47 ?_
              obtain ⟨v49, ev49, hM⟩ := sx_nm_s hM
              refine W.eq (g2 := F0 m 48 ls (.int v49 :: [])) (by subst ev49; rfl) ?_
              refine lv_istore (lv' := [(4, .int v49), (0, .ref m_h), (1, .int a1), (2, .int a2), (3, .int a3), (5, .int x47)]) hx hb dX5_table_48 hl (by decide) rfl (fun ls hl => ?_)
              obtain ⟨v50, ev50, hM⟩ := sx_nm_s hM
              refine lv_iinc (v := v50) (lv' := [(5, .int v50), (4, .int v49), (0, .ref m_h), (1, .int a1), (2, .int a2), (3, .int a3)]) hx hb dX5_table_50 hl (k := 5) rfl (by rw [ev50]; rfl) (by decide) rfl (fun ls hl => ?_)
              refine lv_goto (tgt := 32) hx hb dX5_table_53 (by decide) ?_
              exact ih v49 v50 _ _ _ hM (lv_sub hl [2, 3, 4, 5, 1, 0] rfl) (hP.sub [0, 1, 2, 3] rfl) (hD.sub [0, 1, 2, 3] (by decide) rfl) hS
        exact lp_32 F (1 : Int32) (2 : Int32) _ _ _ hM (lv_sub hl [2, 3, 4, 5, 1, 0] rfl) (hP.sub [0, 1, 2, 3] rfl) (hD.sub [0, 1, 2, 3] (by decide) rfl) hS
      · replace hM := sx_iff c7 hM
        refine lv_iconst (v := -1) hx hb dX5_table_24 (by decide) ?_
        obtain ⟨rfl, rfl, rfl, rfl⟩ := sx_o4 hM
        exact hret _ _ _ _ dX5_table_25 (hP.sub [0, 1, 2, 3] rfl) (hD.sub [0, 1, 2, 3] (by decide) rfl) hS
set_option maxHeartbeats 4000000 in
set_option maxRecDepth 100000 in
theorem mtX5_table (l : Launch) (D : va_G) (cI cJ cS : ClassId) (sz : Nat) (m_h m_now_a m_tape_a m_read_a m_heard_a m_undone_a m_aside_a m_kept_a m_lanes_a m_sizes_a m_items_a m_moved_a : Nat) (m_now : Nat → Int32) (m_typed : Int32) (m_place : Int32) (m_isFault : Int32) (m_heard : Nat → Int32) (m_undos : Int32) (m_aside : Nat → Int32) (m_keptUndos : Int32) (m_isKept : Int32) (a1 : Int32) (a2 : Int32) (a3 : Int32) (F : Nat) (r0 : Int32) (w_m_now : Nat → Int32) (w_m_heard : Nat → Int32) (w_m_aside : Nat → Int32) (hM : fnX5_table F m_now m_heard m_aside a1 a2 a3 = some (r0, w_m_now, w_m_heard, w_m_aside)) : sx_MI l yX5_table wsX5_table ({ frames := 5, cells := 0, slots := 0, locals := 116 }) D (sx_T cI cJ cS) sz [.ref m_h, .int a1, .int a2, .int a3] [(m_h, .inr (5, [.ref m_now_a, .ref m_tape_a, .int m_typed, .int m_place, .int m_isFault, .ref m_read_a, .ref m_heard_a, .ref m_undone_a, .int m_undos, .ref m_aside_a, .ref m_kept_a, .int m_keptUndos, .int m_isKept, .ref m_lanes_a, .ref m_sizes_a, .ref m_items_a, .ref m_moved_a])), (m_now_a, .inl (cI, 65, .inl m_now)), (m_heard_a, .inl (cI, 8, .inl m_heard)), (m_aside_a, .inl (cI, 65, .inl m_aside))] r0 [(m_h, .inr (5, [.ref m_now_a, .ref m_tape_a, .int m_typed, .int m_place, .int m_isFault, .ref m_read_a, .ref m_heard_a, .ref m_undone_a, .int m_undos, .ref m_aside_a, .ref m_kept_a, .int m_keptUndos, .int m_isKept, .ref m_lanes_a, .ref m_sizes_a, .ref m_items_a, .ref m_moved_a])), (m_now_a, .inl (cI, 65, .inl w_m_now)), (m_heard_a, .inl (cI, 8, .inl w_m_heard)), (m_aside_a, .inl (cI, 65, .inl w_m_aside))] := by
  refine Met.ofW (cc := cX5_table) (maxL := 9) (ret := (some .int)) (by decide) rfl ?_
  intro p e s m args below meth c s₁ B hml hv
  obtain ⟨rfl, hsz, hN, hP, hK, hD0⟩ := hv
  subst hsz
  have hl := lv_entry ([.ref m_h, .int a1, .int a2, .int a3]) (n := 9) (Nat.le_of_ble_eq_true rfl)
  rw [lg_entry_eq]
  generalize (lg_sl ([.ref m_h, .int a1, .int a2, .int a3]) ++ List.replicate (9 - (lg_sl ([.ref m_h, .int a1, .int a2, .int a3])).length) Slot.unset).toArray = ls at hl ⊢
  exact kwX5_table B.exec B.bytes hml (findClass_of_methodNamed B.named) (atoms_spec (ws := wsX5_table) B.pre) hN hK (fun q h => Or.inr h) (by decide) (by decide) ⟨Nat.zero_le _, Nat.zero_le _⟩ m_h m_now_a m_tape_a m_read_a m_heard_a m_undone_a m_aside_a m_kept_a m_lanes_a m_sizes_a m_items_a m_moved_a m_now m_typed m_place m_isFault m_heard m_undos m_aside m_keptUndos m_isKept a1 a2 a3 F r0 w_m_now w_m_heard w_m_aside hM _ _ _ hl hP hD0.self va_S.rf (fun H1 locs1 ls1 pc1 hd hP hD hS => W.iret (v := r0) B.exec B.bytes B.returns (fun t ht hW => ⟨⟨r0, (), rfl, rfl, by rw [ht]; exact hP, hD⟩, hS.F ht⟩) hS.2.2 hd)

def bdX5_rivals_37 (F : Nat) (x4_ : Int32) (m_now : Nat → Int32) (kf_123 : Int32 → Int32 → Option (Int32)) (r_ : Int32 → Int32 → Int32 → Option (Int32)) (x2_ : Int32) (x3_ : Int32) (x5_ : Int32) : Option (Int32) :=
  (if (m_now ((0 : Int32)).toNatClampNeg) ≤ x5_ then (kf_123 x2_ x3_) else sx_c1 (fnX5_things F m_now x4_ (0 : Int32)) (fun (r19 : Int32) => sx_lt (fun (y21 : Int32) => sx_lt (fun (y22 : Int32) => sx_lt (fun (y23 : Int32) => sx_nm (x2_ + y23) (fun (v24 : Int32) => sx_nm (x5_ + (1 : Int32)) (fun (v25 : Int32) => (r_ v24 y22 v25)))) (fun (k_115 : Int32 → Option (Int32)) => (if y21 = 0 then (k_115 (0 : Int32)) else (k_115 (1 : Int32))))) (fun (k_103 : Int32 → Option (Int32)) => (if y21 = 0 then (k_103 x3_) else (if x2_ = 0 then (k_103 (((10 : Int32) * x4_) + x5_)) else (k_103 x3_))))) (fun (k_80 : Int32 → Option (Int32)) => (if r19 = 0 then (k_80 (0 : Int32)) else sx_c1 (fnX5_things F m_now x4_ (0 : Int32)) (fun (r30 : Int32) => sx_c1 (fnX5_things F m_now x5_ (0 : Int32)) (fun (r32 : Int32) => (if r30 = r32 then (k_80 (1 : Int32)) else (k_80 (0 : Int32)))))))))
def bdX5_rivals_20 (F : Nat) (m_now : Nat → Int32) (kf_129 : Int32 → Int32 → Option (Int32)) (r_ : Int32 → Int32 → Int32 → Option (Int32)) (x2_ : Int32) (x3_ : Int32) (x4_ : Int32) : Option (Int32) :=
  (if (m_now ((0 : Int32)).toNatClampNeg) ≤ x4_ then (kf_129 x2_ x3_) else sx_nm (x4_ + (1 : Int32)) (fun (v11 : Int32) => sx_lt (fun (x12 : Int32) (x13 : Int32) => sx_nm (x4_ + (1 : Int32)) (fun (v14 : Int32) => (r_ x12 x13 v14))) (fun (k_123 : Int32 → Int32 → Option (Int32)) => sx_lp3 (bdX5_rivals_37 F x4_ m_now k_123) F x2_ x3_ v11)))
def fnX5_rivals (F : Nat) (m_now : Nat → Int32) (a1 : Int32) : Option (Int32) :=
  sx_c1 (fnX5_in F (a1).toInt64 (0 : Int64) (1 : Int64)) (fun (r1 : Int32) => (if r1 = 0 then (some ((-1 : Int32))) else sx_lt (fun (x4 : Int32) (x5 : Int32) => (if a1 = 0 then (some (x4)) else (some (x5)))) (fun (k_129 : Int32 → Int32 → Option (Int32)) => sx_lp3 (bdX5_rivals_20 F m_now k_129) F (0 : Int32) (-4 : Int32) (0 : Int32))))
set_option maxHeartbeats 4000000 in
set_option maxRecDepth 100000 in
theorem kwX5_rivals {p : Program} {l : Launch} {e : Env} {R : Room} {s : State} {m : MethodId} {args : Array Value} {below : List Frame} {meth : Method} {c : Code} {cells slots : Nat} {Q : State → Prop} {A : Nat → Prop} {H0 : Heap} {D : va_G} {cI cJ cS : ClassId} (hx : p.tables.exec = Jvm.exec) (hb : c.code = cX5_rivals) (hml : c.maxLocals = 7) (hown : s.vm.findClass RX5 = some m.cls) (hts : ∀ w ∈ wsX5_rivals, w.before args s = true) (hN : sx_N s) (hK : va_K D vwCl (sx_T cI cJ cS) s) (hA : ∀ q, H0.size ≤ q → A q) (hRf : 3 ≤ R.frames) (hRl : 68 ≤ R.locals) (hRc : cells ≤ R.cells ∧ slots ≤ R.slots) (m_h m_now_a m_tape_a m_read_a m_heard_a m_undone_a m_aside_a m_kept_a m_lanes_a m_sizes_a m_items_a m_moved_a : Nat) (m_now : Nat → Int32) (m_typed : Int32) (m_place : Int32) (m_isFault : Int32) (m_undos : Int32) (m_keptUndos : Int32) (m_isKept : Int32) (a1 : Int32) (F : Nat) (r0 : Int32) (hM : fnX5_rivals F m_now a1 = some r0) (H : Heap) (locs : List Loc) (ls : Array Slot) (hl : lv_has ls 7 [(0, .ref m_h), (1, .int a1)]) (hP : va_P D vwCl [(m_h, .inr (5, [.ref m_now_a, .ref m_tape_a, .int m_typed, .int m_place, .int m_isFault, .ref m_read_a, .ref m_heard_a, .ref m_undone_a, .int m_undos, .ref m_aside_a, .ref m_kept_a, .int m_keptUndos, .int m_isKept, .ref m_lanes_a, .ref m_sizes_a, .ref m_items_a, .ref m_moved_a])), (m_now_a, .inl (cI, 65, .inl m_now))] H) (hD : va_D A [(m_h, .inr (5, [.ref m_now_a, .ref m_tape_a, .int m_typed, .int m_place, .int m_isFault, .ref m_read_a, .ref m_heard_a, .ref m_undone_a, .int m_undos, .ref m_aside_a, .ref m_kept_a, .int m_keptUndos, .int m_isKept, .ref m_lanes_a, .ref m_sizes_a, .ref m_items_a, .ref m_moved_a])), (m_now_a, .inl (cI, 65, .inl m_now))]) (hS : va_S A H0 H locs)
    (hret : ∀ (H1 : Heap) (locs1 : List Loc) (ls1 : Array Slot) (pc1 : Nat), decode cX5_rivals pc1 = .ok (.ireturn, 1) → va_P D vwCl [(m_h, .inr (5, [.ref m_now_a, .ref m_tape_a, .int m_typed, .int m_place, .int m_isFault, .ref m_read_a, .ref m_heard_a, .ref m_undone_a, .int m_undos, .ref m_aside_a, .ref m_kept_a, .int m_keptUndos, .int m_isKept, .ref m_lanes_a, .ref m_sizes_a, .ref m_items_a, .ref m_moved_a])), (m_now_a, .inl (cI, 65, .inl m_now))] H1 → va_D A [(m_h, .inr (5, [.ref m_now_a, .ref m_tape_a, .int m_typed, .int m_place, .int m_isFault, .ref m_read_a, .ref m_heard_a, .ref m_undone_a, .int m_undos, .ref m_aside_a, .ref m_kept_a, .int m_keptUndos, .int m_isKept, .ref m_lanes_a, .ref m_sizes_a, .ref m_items_a, .ref m_moved_a])), (m_now_a, .inl (cI, 65, .inl m_now))] → va_S A H0 H1 locs1 → W p l e R s m args below meth c H1 locs1 cells slots Q (F0 m pc1 ls1 [.int r0])) : W p l e R s m args below meth c H locs cells slots Q (F0 m 0 ls []) := by
  have hf_7 := hts (.fieldLink RX5 7 "SealedLipsModel" "now" "[I") (by decide +kernel)
  have hin_X5 : ∀ w ∈ wsX50, w ∈ wsX5_rivals := by decide +kernel
  unfold fnX5_rivals at hM
  refine lv_iload_n hx hb dX5_rivals_0 rfl (lv_at hl 1 rfl) ?_
  refine lv_i2l hx hb dX5_rivals_1 rfl ?_
  refine lv_lconst (v := 0) hx hb dX5_rivals_2 (by decide) ?_
  refine lv_lconst (v := 1) hx hb dX5_rivals_3 (by decide) ?_
  obtain ⟨r1, hc2, hM⟩ := sx_c1_s hM
  refine sx_iS (As := [.long (a1).toInt64, .long (0 : Int64), .long (1 : Int64)]) (rest := []) (wc := []) (wr := [(m_h, .inr (5, [.ref m_now_a, .ref m_tape_a, .int m_typed, .int m_place, .int m_isFault, .ref m_read_a, .ref m_heard_a, .ref m_undone_a, .int m_undos, .ref m_aside_a, .ref m_kept_a, .int m_keptUndos, .int m_isKept, .ref m_lanes_a, .ref m_sizes_a, .ref m_items_a, .ref m_moved_a])), (m_now_a, .inl (cI, 65, .inl m_now))]) (w1 := []) ⟨hx, hb, hml, hown, hts⟩ (mtX5_in l D cI cJ cS H.size (a1).toInt64 (0 : Int64) (1 : Int64) F r1 hc2) (va_cwS 3 hts gX5_rivals_X5_in rfl rfl rfl (by decide +kernel) ⟨Nat.le_trans (by decide) hRf, Nat.le_trans (by decide) hRl⟩) hK hN hP hD hS hA [] [0, 1] rfl (by decide) rfl (by decide) (by decide) rfl hl.1 rfl (Nat.le_of_ble_eq_true rfl) dX5_rivals_4 hRc (fun H locs hP hD hS => ?_)
  have hP : va_P D vwCl [(m_h, .inr (5, [.ref m_now_a, .ref m_tape_a, .int m_typed, .int m_place, .int m_isFault, .ref m_read_a, .ref m_heard_a, .ref m_undone_a, .int m_undos, .ref m_aside_a, .ref m_kept_a, .int m_keptUndos, .int m_isKept, .ref m_lanes_a, .ref m_sizes_a, .ref m_items_a, .ref m_moved_a])), (m_now_a, .inl (cI, 65, .inl m_now))] H := hP
  have hD : va_D A [(m_h, .inr (5, [.ref m_now_a, .ref m_tape_a, .int m_typed, .int m_place, .int m_isFault, .ref m_read_a, .ref m_heard_a, .ref m_undone_a, .int m_undos, .ref m_aside_a, .ref m_kept_a, .int m_keptUndos, .int m_isKept, .ref m_lanes_a, .ref m_sizes_a, .ref m_items_a, .ref m_moved_a])), (m_now_a, .inl (cI, 65, .inl m_now))] := hD
  refine lv_if_ne (tgt := 12) hx hb dX5_rivals_7 (by decide) (fun c3 => ?_) (fun c3 => ?_)
  · replace hM := sx_iff c3 hM
    refine lv_iconst (v := 0) hx hb dX5_rivals_12 (by decide) ?_
    refine lv_istore_n (lv' := [(2, .int (0 : Int32)), (0, .ref m_h), (1, .int a1)]) hx hb dX5_rivals_13 rfl hl (by decide) rfl (fun ls hl => ?_)
    refine lv_bipush (v := -4) hx hb dX5_rivals_14 (by decide) ?_
    refine lv_istore_n (lv' := [(3, .int (-4 : Int32)), (2, .int (0 : Int32)), (0, .ref m_h), (1, .int a1)]) hx hb dX5_rivals_16 rfl hl (by decide) rfl (fun ls hl => ?_)
    refine lv_iconst (v := 0) hx hb dX5_rivals_17 (by decide) ?_
    refine lv_istore (lv' := [(4, .int (0 : Int32)), (3, .int (-4 : Int32)), (2, .int (0 : Int32)), (0, .ref m_h), (1, .int a1)]) hx hb dX5_rivals_18 hl (by decide) rfl (fun ls hl => ?_)
    obtain ⟨k_129, ek_129, hM⟩ := sx_lt_s hM
    have hk_129 : ∀ (x4 : Int32) (x5 : Int32) (H : Heap) (locs : List Loc) (ls : Array Slot), k_129 x4 x5 = some r0 → lv_has ls 7 [(1, .int a1), (2, .int x4), (3, .int x5)] → va_P D vwCl [(m_h, .inr (5, [.ref m_now_a, .ref m_tape_a, .int m_typed, .int m_place, .int m_isFault, .ref m_read_a, .ref m_heard_a, .ref m_undone_a, .int m_undos, .ref m_aside_a, .ref m_kept_a, .int m_keptUndos, .int m_isKept, .ref m_lanes_a, .ref m_sizes_a, .ref m_items_a, .ref m_moved_a])), (m_now_a, .inl (cI, 65, .inl m_now))] H → va_D A [(m_h, .inr (5, [.ref m_now_a, .ref m_tape_a, .int m_typed, .int m_place, .int m_isFault, .ref m_read_a, .ref m_heard_a, .ref m_undone_a, .int m_undos, .ref m_aside_a, .ref m_kept_a, .int m_keptUndos, .int m_isKept, .ref m_lanes_a, .ref m_sizes_a, .ref m_items_a, .ref m_moved_a])), (m_now_a, .inl (cI, 65, .inl m_now))] → va_S A H0 H locs → W p l e R s m args below meth c H locs cells slots Q (F0 m 129 ls ([])) := by
      intro x4 x5 H locs ls hM hl hP hD hS
      rw [ek_129] at hM
      refine lv_iload_n hx hb dX5_rivals_129 rfl (lv_at hl 0 rfl) ?_
      refine lv_if_ne (tgt := 137) hx hb dX5_rivals_130 (by decide) (fun c6 => ?_) (fun c6 => ?_)
      · replace hM := sx_iff c6 hM
        refine lv_iload_n hx hb dX5_rivals_137 rfl (lv_at hl 2 rfl) ?_
        obtain rfl := sx_o1 hM
        exact hret _ _ _ _ dX5_rivals_138 (hP.sub [0, 1] rfl) (hD.sub [0, 1] (by decide) rfl) hS
      · replace hM := sx_ift c6 hM
        refine lv_iload_n hx hb dX5_rivals_133 rfl (lv_at hl 1 rfl) ?_
        refine lv_goto (tgt := 138) hx hb dX5_rivals_134 (by decide) ?_
        obtain rfl := sx_o1 hM
        exact hret _ _ _ _ dX5_rivals_138 (hP.sub [0, 1] rfl) (hD.sub [0, 1] (by decide) rfl) hS
    have lp_20 : ∀ (n : Nat) (x7 : Int32) (x8 : Int32) (x9 : Int32) (H : Heap) (locs : List Loc) (ls : Array Slot), sx_lp3 (bdX5_rivals_20 F m_now k_129) n x7 x8 x9 = some r0 → lv_has ls 7 [(0, .ref m_h), (1, .int a1), (2, .int x7), (3, .int x8), (4, .int x9)] → va_P D vwCl [(m_h, .inr (5, [.ref m_now_a, .ref m_tape_a, .int m_typed, .int m_place, .int m_isFault, .ref m_read_a, .ref m_heard_a, .ref m_undone_a, .int m_undos, .ref m_aside_a, .ref m_kept_a, .int m_keptUndos, .int m_isKept, .ref m_lanes_a, .ref m_sizes_a, .ref m_items_a, .ref m_moved_a])), (m_now_a, .inl (cI, 65, .inl m_now))] H → va_D A [(m_h, .inr (5, [.ref m_now_a, .ref m_tape_a, .int m_typed, .int m_place, .int m_isFault, .ref m_read_a, .ref m_heard_a, .ref m_undone_a, .int m_undos, .ref m_aside_a, .ref m_kept_a, .int m_keptUndos, .int m_isKept, .ref m_lanes_a, .ref m_sizes_a, .ref m_items_a, .ref m_moved_a])), (m_now_a, .inl (cI, 65, .inl m_now))] → va_S A H0 H locs → W p l e R s m args below meth c H locs cells slots Q (F0 m 20 ls ([])) := by
      intro n
      induction n with
      | zero => intro x7 x8 x9 H locs ls hM; exact (sx_lp3_0 hM).elim
      | succ n ih =>
        intro x7 x8 x9 H locs ls hM hl hP hD hS
        have hM : bdX5_rivals_20 F m_now k_129 (sx_lp3 (bdX5_rivals_20 F m_now k_129) n) x7 x8 x9 = some r0 := hM
        generalize sx_lp3 (bdX5_rivals_20 F m_now k_129) n = r_20 at hM ih
        unfold bdX5_rivals_20 at hM
        refine lv_iload hx hb dX5_rivals_20 (lv_at hl 4 rfl) ?_
        refine lv_aload_n hx hb dX5_rivals_22 rfl (lv_at hl 0 rfl) ?_
        refine va_get (D := D) (ci := 5) (v := .ref m_now_a) (C := RX5) (T := TX5) (N := 17) hx hb hts hin_X5 hown hK hP 0 rfl rfl 0 (by decide) hf_7 (fun _ h9 => h9) rfl dX5_rivals_23 ?_
        refine lv_iconst (v := 0) hx hb dX5_rivals_26 (by decide) ?_
        refine va_iald hx hb hK hP 1 0 rfl rfl (sx_ib_s (by decide)) dX5_rivals_27 ?_
        refine lv_icmp_ge (tgt := 129) hx hb dX5_rivals_28 (by decide) (fun c10 => ?_) (fun c10 => ?_)
        · replace hM := sx_ift c10 hM
          exact hk_129 x7 x8 _ _ _ hM (lv_sub hl [1, 2, 3] rfl) (hP.sub [0, 1] rfl) (hD.sub [0, 1] (by decide) rfl) hS
        · replace hM := sx_iff c10 hM
          refine lv_iload hx hb dX5_rivals_31 (lv_at hl 4 rfl) ?_
          refine lv_iconst (v := 1) hx hb dX5_rivals_33 (by decide) ?_
          refine lv_iadd hx hb dX5_rivals_34 ?_
          obtain ⟨v11, ev11, hM⟩ := sx_nm_s hM
          refine W.eq (g2 := F0 m 35 ls (.int v11 :: [])) (by subst ev11; rfl) ?_
          refine lv_istore (lv' := [(5, .int v11), (0, .ref m_h), (1, .int a1), (2, .int x7), (3, .int x8), (4, .int x9)]) hx hb dX5_rivals_35 hl (by decide) rfl (fun ls hl => ?_)
          obtain ⟨k_123, ek_123, hM⟩ := sx_lt_s hM
          have hk_123 : ∀ (x12 : Int32) (x13 : Int32) (H : Heap) (locs : List Loc) (ls : Array Slot), k_123 x12 x13 = some r0 → lv_has ls 7 [(0, .ref m_h), (1, .int a1), (2, .int x12), (3, .int x13), (4, .int x9)] → va_P D vwCl [(m_h, .inr (5, [.ref m_now_a, .ref m_tape_a, .int m_typed, .int m_place, .int m_isFault, .ref m_read_a, .ref m_heard_a, .ref m_undone_a, .int m_undos, .ref m_aside_a, .ref m_kept_a, .int m_keptUndos, .int m_isKept, .ref m_lanes_a, .ref m_sizes_a, .ref m_items_a, .ref m_moved_a])), (m_now_a, .inl (cI, 65, .inl m_now))] H → va_D A [(m_h, .inr (5, [.ref m_now_a, .ref m_tape_a, .int m_typed, .int m_place, .int m_isFault, .ref m_read_a, .ref m_heard_a, .ref m_undone_a, .int m_undos, .ref m_aside_a, .ref m_kept_a, .int m_keptUndos, .int m_isKept, .ref m_lanes_a, .ref m_sizes_a, .ref m_items_a, .ref m_moved_a])), (m_now_a, .inl (cI, 65, .inl m_now))] → va_S A H0 H locs → W p l e R s m args below meth c H locs cells slots Q (F0 m 123 ls ([])) := by
            intro x12 x13 H locs ls hM hl hP hD hS
            rw [ek_123] at hM
            obtain ⟨v14, ev14, hM⟩ := sx_nm_s hM
            refine lv_iinc (v := v14) (lv' := [(4, .int v14), (0, .ref m_h), (1, .int a1), (2, .int x12), (3, .int x13)]) hx hb dX5_rivals_123 hl (k := 4) rfl (by rw [ev14]; rfl) (by decide) rfl (fun ls hl => ?_)
            refine lv_goto (tgt := 20) hx hb dX5_rivals_126 (by decide) ?_
            exact ih x12 x13 v14 _ _ _ hM (lv_sub hl [1, 2, 3, 4, 0] rfl) (hP.sub [0, 1] rfl) (hD.sub [0, 1] (by decide) rfl) hS
          have lp_37 : ∀ (n : Nat) (x15 : Int32) (x16 : Int32) (x17 : Int32) (H : Heap) (locs : List Loc) (ls : Array Slot), sx_lp3 (bdX5_rivals_37 F x9 m_now k_123) n x15 x16 x17 = some r0 → lv_has ls 7 [(0, .ref m_h), (1, .int a1), (2, .int x15), (3, .int x16), (4, .int x9), (5, .int x17)] → va_P D vwCl [(m_h, .inr (5, [.ref m_now_a, .ref m_tape_a, .int m_typed, .int m_place, .int m_isFault, .ref m_read_a, .ref m_heard_a, .ref m_undone_a, .int m_undos, .ref m_aside_a, .ref m_kept_a, .int m_keptUndos, .int m_isKept, .ref m_lanes_a, .ref m_sizes_a, .ref m_items_a, .ref m_moved_a])), (m_now_a, .inl (cI, 65, .inl m_now))] H → va_D A [(m_h, .inr (5, [.ref m_now_a, .ref m_tape_a, .int m_typed, .int m_place, .int m_isFault, .ref m_read_a, .ref m_heard_a, .ref m_undone_a, .int m_undos, .ref m_aside_a, .ref m_kept_a, .int m_keptUndos, .int m_isKept, .ref m_lanes_a, .ref m_sizes_a, .ref m_items_a, .ref m_moved_a])), (m_now_a, .inl (cI, 65, .inl m_now))] → va_S A H0 H locs → W p l e R s m args below meth c H locs cells slots Q (F0 m 37 ls ([])) := by
            intro n
            induction n with
            | zero => intro x15 x16 x17 H locs ls hM; exact (sx_lp3_0 hM).elim
            | succ n ih =>
              intro x15 x16 x17 H locs ls hM hl hP hD hS
              have hM : bdX5_rivals_37 F x9 m_now k_123 (sx_lp3 (bdX5_rivals_37 F x9 m_now k_123) n) x15 x16 x17 = some r0 := hM
              generalize sx_lp3 (bdX5_rivals_37 F x9 m_now k_123) n = r_37 at hM ih
              unfold bdX5_rivals_37 at hM
              refine lv_iload hx hb dX5_rivals_37 (lv_at hl 5 rfl) ?_
              refine lv_aload_n hx hb dX5_rivals_39 rfl (lv_at hl 0 rfl) ?_
              refine va_get (D := D) (ci := 5) (v := .ref m_now_a) (C := RX5) (T := TX5) (N := 17) hx hb hts hin_X5 hown hK hP 0 rfl rfl 0 (by decide) hf_7 (fun _ h9 => h9) rfl dX5_rivals_40 ?_
              refine lv_iconst (v := 0) hx hb dX5_rivals_43 (by decide) ?_
              refine va_iald hx hb hK hP 1 0 rfl rfl (sx_ib_s (by decide)) dX5_rivals_44 ?_
              refine lv_icmp_ge (tgt := 123) hx hb dX5_rivals_45 (by decide) (fun c18 => ?_) (fun c18 => ?_)
              · replace hM := sx_ift c18 hM
                exact hk_123 x15 x16 _ _ _ hM (lv_sub hl [0, 1, 2, 3, 4] rfl) (hP.sub [0, 1] rfl) (hD.sub [0, 1] (by decide) rfl) hS
              · replace hM := sx_iff c18 hM
                refine lv_aload_n hx hb dX5_rivals_48 rfl (lv_at hl 0 rfl) ?_
                refine lv_iload hx hb dX5_rivals_49 (lv_at hl 4 rfl) ?_
                refine lv_iconst (v := 0) hx hb dX5_rivals_51 (by decide) ?_
                obtain ⟨r19, hc20, hM⟩ := sx_c1_s hM
                refine sx_iV (As := [.int x9, .int (0 : Int32)]) (rest := []) (wc := [(m_h, .inr (5, [.ref m_now_a, .ref m_tape_a, .int m_typed, .int m_place, .int m_isFault, .ref m_read_a, .ref m_heard_a, .ref m_undone_a, .int m_undos, .ref m_aside_a, .ref m_kept_a, .int m_keptUndos, .int m_isKept, .ref m_lanes_a, .ref m_sizes_a, .ref m_items_a, .ref m_moved_a])), (m_now_a, .inl (cI, 65, .inl m_now))]) (wr := []) (w1 := [(m_h, .inr (5, [.ref m_now_a, .ref m_tape_a, .int m_typed, .int m_place, .int m_isFault, .ref m_read_a, .ref m_heard_a, .ref m_undone_a, .int m_undos, .ref m_aside_a, .ref m_kept_a, .int m_keptUndos, .int m_isKept, .ref m_lanes_a, .ref m_sizes_a, .ref m_items_a, .ref m_moved_a])), (m_now_a, .inl (cI, 65, .inl m_now))]) ⟨hx, hb, hml, hown, hts⟩ (mtX5_things l D cI cJ cS H.size m_h m_now_a m_tape_a m_read_a m_heard_a m_undone_a m_aside_a m_kept_a m_lanes_a m_sizes_a m_items_a m_moved_a m_now m_typed m_place m_isFault m_undos m_keptUndos m_isKept x9 (0 : Int32) F r19 hc20) (cwV 2 hts gX5_rivals_X5_things rfl rfl rfl (by decide +kernel) ⟨Nat.le_trans (by decide) hRf, Nat.le_trans (by decide) hRl⟩) hK hN hP hD hS hA [0, 1] [] rfl (by decide) rfl (by decide) (by decide) rfl rfl rfl rfl hl.1 rfl (Nat.le_of_ble_eq_true rfl) dX5_rivals_52 hRc (fun H locs hP hD hS => ?_)
                have hP : va_P D vwCl [(m_h, .inr (5, [.ref m_now_a, .ref m_tape_a, .int m_typed, .int m_place, .int m_isFault, .ref m_read_a, .ref m_heard_a, .ref m_undone_a, .int m_undos, .ref m_aside_a, .ref m_kept_a, .int m_keptUndos, .int m_isKept, .ref m_lanes_a, .ref m_sizes_a, .ref m_items_a, .ref m_moved_a])), (m_now_a, .inl (cI, 65, .inl m_now))] H := hP
                have hD : va_D A [(m_h, .inr (5, [.ref m_now_a, .ref m_tape_a, .int m_typed, .int m_place, .int m_isFault, .ref m_read_a, .ref m_heard_a, .ref m_undone_a, .int m_undos, .ref m_aside_a, .ref m_kept_a, .int m_keptUndos, .int m_isKept, .ref m_lanes_a, .ref m_sizes_a, .ref m_items_a, .ref m_moved_a])), (m_now_a, .inl (cI, 65, .inl m_now))] := hD
                obtain ⟨k_80, ek_80, hM⟩ := sx_lt_s hM
                have hk_80 : ∀ (y21 : Int32) (H : Heap) (locs : List Loc) (ls : Array Slot), k_80 y21 = some r0 → lv_has ls 7 [(0, .ref m_h), (1, .int a1), (2, .int x15), (3, .int x16), (4, .int x9), (5, .int x17)] → va_P D vwCl [(m_h, .inr (5, [.ref m_now_a, .ref m_tape_a, .int m_typed, .int m_place, .int m_isFault, .ref m_read_a, .ref m_heard_a, .ref m_undone_a, .int m_undos, .ref m_aside_a, .ref m_kept_a, .int m_keptUndos, .int m_isKept, .ref m_lanes_a, .ref m_sizes_a, .ref m_items_a, .ref m_moved_a])), (m_now_a, .inl (cI, 65, .inl m_now))] H → va_D A [(m_h, .inr (5, [.ref m_now_a, .ref m_tape_a, .int m_typed, .int m_place, .int m_isFault, .ref m_read_a, .ref m_heard_a, .ref m_undone_a, .int m_undos, .ref m_aside_a, .ref m_kept_a, .int m_keptUndos, .int m_isKept, .ref m_lanes_a, .ref m_sizes_a, .ref m_items_a, .ref m_moved_a])), (m_now_a, .inl (cI, 65, .inl m_now))] → va_S A H0 H locs → W p l e R s m args below meth c H locs cells slots Q (F0 m 80 ls (.int y21 :: [])) := by
                  intro y21 H locs ls hM hl hP hD hS
                  rw [ek_80] at hM
                  refine lv_istore (lv' := [(6, .int y21), (0, .ref m_h), (1, .int a1), (2, .int x15), (3, .int x16), (4, .int x9), (5, .int x17)]) hx hb dX5_rivals_80 hl (by decide) rfl (fun ls hl => ?_)
                  refine lv_iload hx hb dX5_rivals_82 (lv_at hl 0 rfl) ?_
                  obtain ⟨k_103, ek_103, hM⟩ := sx_lt_s hM
                  have hk_103 : ∀ (y22 : Int32) (H : Heap) (locs : List Loc) (ls : Array Slot), k_103 y22 = some r0 → lv_has ls 7 [(0, .ref m_h), (1, .int a1), (2, .int x15), (4, .int x9), (5, .int x17), (6, .int y21)] → va_P D vwCl [(m_h, .inr (5, [.ref m_now_a, .ref m_tape_a, .int m_typed, .int m_place, .int m_isFault, .ref m_read_a, .ref m_heard_a, .ref m_undone_a, .int m_undos, .ref m_aside_a, .ref m_kept_a, .int m_keptUndos, .int m_isKept, .ref m_lanes_a, .ref m_sizes_a, .ref m_items_a, .ref m_moved_a])), (m_now_a, .inl (cI, 65, .inl m_now))] H → va_D A [(m_h, .inr (5, [.ref m_now_a, .ref m_tape_a, .int m_typed, .int m_place, .int m_isFault, .ref m_read_a, .ref m_heard_a, .ref m_undone_a, .int m_undos, .ref m_aside_a, .ref m_kept_a, .int m_keptUndos, .int m_isKept, .ref m_lanes_a, .ref m_sizes_a, .ref m_items_a, .ref m_moved_a])), (m_now_a, .inl (cI, 65, .inl m_now))] → va_S A H0 H locs → W p l e R s m args below meth c H locs cells slots Q (F0 m 103 ls (.int y22 :: [])) := by
                    intro y22 H locs ls hM hl hP hD hS
                    rw [ek_103] at hM
                    refine lv_istore_n (lv' := [(3, .int y22), (0, .ref m_h), (1, .int a1), (2, .int x15), (4, .int x9), (5, .int x17), (6, .int y21)]) hx hb dX5_rivals_103 rfl hl (by decide) rfl (fun ls hl => ?_)
                    refine lv_iload_n hx hb dX5_rivals_104 rfl (lv_at hl 3 rfl) ?_
                    refine lv_iload hx hb dX5_rivals_105 (lv_at hl 6 rfl) ?_
                    obtain ⟨k_115, ek_115, hM⟩ := sx_lt_s hM
                    have hk_115 : ∀ (y23 : Int32) (H : Heap) (locs : List Loc) (ls : Array Slot), k_115 y23 = some r0 → lv_has ls 7 [(0, .ref m_h), (1, .int a1), (3, .int y22), (4, .int x9), (5, .int x17)] → va_P D vwCl [(m_h, .inr (5, [.ref m_now_a, .ref m_tape_a, .int m_typed, .int m_place, .int m_isFault, .ref m_read_a, .ref m_heard_a, .ref m_undone_a, .int m_undos, .ref m_aside_a, .ref m_kept_a, .int m_keptUndos, .int m_isKept, .ref m_lanes_a, .ref m_sizes_a, .ref m_items_a, .ref m_moved_a])), (m_now_a, .inl (cI, 65, .inl m_now))] H → va_D A [(m_h, .inr (5, [.ref m_now_a, .ref m_tape_a, .int m_typed, .int m_place, .int m_isFault, .ref m_read_a, .ref m_heard_a, .ref m_undone_a, .int m_undos, .ref m_aside_a, .ref m_kept_a, .int m_keptUndos, .int m_isKept, .ref m_lanes_a, .ref m_sizes_a, .ref m_items_a, .ref m_moved_a])), (m_now_a, .inl (cI, 65, .inl m_now))] → va_S A H0 H locs → W p l e R s m args below meth c H locs cells slots Q (F0 m 115 ls (.int y23 :: .int x15 :: [])) := by
                      intro y23 H locs ls hM hl hP hD hS
                      rw [ek_115] at hM
                      refine lv_iadd hx hb dX5_rivals_115 ?_
                      obtain ⟨v24, ev24, hM⟩ := sx_nm_s hM
                      refine W.eq (g2 := F0 m 116 ls (.int v24 :: [])) (by subst ev24; rfl) ?_
                      refine lv_istore_n (lv' := [(2, .int v24), (0, .ref m_h), (1, .int a1), (3, .int y22), (4, .int x9), (5, .int x17)]) hx hb dX5_rivals_116 rfl hl (by decide) rfl (fun ls hl => ?_)
                      obtain ⟨v25, ev25, hM⟩ := sx_nm_s hM
                      refine lv_iinc (v := v25) (lv' := [(5, .int v25), (2, .int v24), (0, .ref m_h), (1, .int a1), (3, .int y22), (4, .int x9)]) hx hb dX5_rivals_117 hl (k := 5) rfl (by rw [ev25]; rfl) (by decide) rfl (fun ls hl => ?_)
                      refine lv_goto (tgt := 37) hx hb dX5_rivals_120 (by decide) ?_
                      exact ih v24 y22 v25 _ _ _ hM (lv_sub hl [2, 3, 1, 4, 5, 0] rfl) (hP.sub [0, 1] rfl) (hD.sub [0, 1] (by decide) rfl) hS
                    refine lv_if_eq (tgt := 114) hx hb dX5_rivals_107 (by decide) (fun c26 => ?_) (fun c26 => ?_)
                    · replace hM := sx_ift c26 hM
                      refine lv_iconst (v := 0) hx hb dX5_rivals_114 (by decide) ?_
                      exact hk_115 (0 : Int32) _ _ _ hM (lv_sub hl [1, 2, 0, 4, 5] rfl) (hP.sub [0, 1] rfl) (hD.sub [0, 1] (by decide) rfl) hS
                    · replace hM := sx_iff c26 hM
                      refine lv_iconst (v := 1) hx hb dX5_rivals_110 (by decide) ?_
                      refine lv_goto (tgt := 115) hx hb dX5_rivals_111 (by decide) ?_
                      exact hk_115 (1 : Int32) _ _ _ hM (lv_sub hl [1, 2, 0, 4, 5] rfl) (hP.sub [0, 1] rfl) (hD.sub [0, 1] (by decide) rfl) hS
                  refine lv_if_eq (tgt := 102) hx hb dX5_rivals_84 (by decide) (fun c27 => ?_) (fun c27 => ?_)
                  · replace hM := sx_ift c27 hM
                    refine lv_iload_n hx hb dX5_rivals_102 rfl (lv_at hl 4 rfl) ?_
                    exact hk_103 x16 _ _ _ hM (lv_sub hl [1, 2, 3, 5, 6, 0] rfl) (hP.sub [0, 1] rfl) (hD.sub [0, 1] (by decide) rfl) hS
                  · replace hM := sx_iff c27 hM
                    refine lv_iload_n hx hb dX5_rivals_87 rfl (lv_at hl 3 rfl) ?_
                    refine lv_if_ne (tgt := 102) hx hb dX5_rivals_88 (by decide) (fun c28 => ?_) (fun c28 => ?_)
                    · replace hM := sx_iff c28 hM
                      refine lv_iload_n hx hb dX5_rivals_102 rfl (lv_at hl 4 rfl) ?_
                      exact hk_103 x16 _ _ _ hM (lv_sub hl [1, 2, 3, 5, 6, 0] rfl) (hP.sub [0, 1] rfl) (hD.sub [0, 1] (by decide) rfl) hS
                    · replace hM := sx_ift c28 hM
                      refine lv_bipush (v := 10) hx hb dX5_rivals_91 (by decide) ?_
                      refine lv_iload hx hb dX5_rivals_93 (lv_at hl 5 rfl) ?_
                      refine lv_imul hx hb dX5_rivals_95 ?_
                      refine lv_iload hx hb dX5_rivals_96 (lv_at hl 6 rfl) ?_
                      refine lv_iadd hx hb dX5_rivals_98 ?_
                      refine lv_goto (tgt := 103) hx hb dX5_rivals_99 (by decide) ?_
                      exact hk_103 (((10 : Int32) * x9) + x17) _ _ _ hM (lv_sub hl [1, 2, 3, 5, 6, 0] rfl) (hP.sub [0, 1] rfl) (hD.sub [0, 1] (by decide) rfl) hS
                refine lv_if_eq (tgt := 79) hx hb dX5_rivals_55 (by decide) (fun c29 => ?_) (fun c29 => ?_)
                · replace hM := sx_ift c29 hM
                  refine lv_iconst (v := 0) hx hb dX5_rivals_79 (by decide) ?_
                  exact hk_80 (0 : Int32) _ _ _ hM (lv_sub hl [0, 1, 2, 3, 4, 5] rfl) (hP.sub [0, 1] rfl) (hD.sub [0, 1] (by decide) rfl) hS
                · replace hM := sx_iff c29 hM
                  refine lv_aload_n hx hb dX5_rivals_58 rfl (lv_at hl 0 rfl) ?_
                  refine lv_iload hx hb dX5_rivals_59 (lv_at hl 4 rfl) ?_
                  refine lv_iconst (v := 0) hx hb dX5_rivals_61 (by decide) ?_
                  obtain ⟨r30, hc31, hM⟩ := sx_c1_s hM
                  refine sx_iV (As := [.int x9, .int (0 : Int32)]) (rest := []) (wc := [(m_h, .inr (5, [.ref m_now_a, .ref m_tape_a, .int m_typed, .int m_place, .int m_isFault, .ref m_read_a, .ref m_heard_a, .ref m_undone_a, .int m_undos, .ref m_aside_a, .ref m_kept_a, .int m_keptUndos, .int m_isKept, .ref m_lanes_a, .ref m_sizes_a, .ref m_items_a, .ref m_moved_a])), (m_now_a, .inl (cI, 65, .inl m_now))]) (wr := []) (w1 := [(m_h, .inr (5, [.ref m_now_a, .ref m_tape_a, .int m_typed, .int m_place, .int m_isFault, .ref m_read_a, .ref m_heard_a, .ref m_undone_a, .int m_undos, .ref m_aside_a, .ref m_kept_a, .int m_keptUndos, .int m_isKept, .ref m_lanes_a, .ref m_sizes_a, .ref m_items_a, .ref m_moved_a])), (m_now_a, .inl (cI, 65, .inl m_now))]) ⟨hx, hb, hml, hown, hts⟩ (mtX5_things l D cI cJ cS H.size m_h m_now_a m_tape_a m_read_a m_heard_a m_undone_a m_aside_a m_kept_a m_lanes_a m_sizes_a m_items_a m_moved_a m_now m_typed m_place m_isFault m_undos m_keptUndos m_isKept x9 (0 : Int32) F r30 hc31) (cwV 2 hts gX5_rivals_X5_things rfl rfl rfl (by decide +kernel) ⟨Nat.le_trans (by decide) hRf, Nat.le_trans (by decide) hRl⟩) hK hN hP hD hS hA [0, 1] [] rfl (by decide) rfl (by decide) (by decide) rfl rfl rfl rfl hl.1 rfl (Nat.le_of_ble_eq_true rfl) dX5_rivals_62 hRc (fun H locs hP hD hS => ?_)
                  have hP : va_P D vwCl [(m_h, .inr (5, [.ref m_now_a, .ref m_tape_a, .int m_typed, .int m_place, .int m_isFault, .ref m_read_a, .ref m_heard_a, .ref m_undone_a, .int m_undos, .ref m_aside_a, .ref m_kept_a, .int m_keptUndos, .int m_isKept, .ref m_lanes_a, .ref m_sizes_a, .ref m_items_a, .ref m_moved_a])), (m_now_a, .inl (cI, 65, .inl m_now))] H := hP
                  have hD : va_D A [(m_h, .inr (5, [.ref m_now_a, .ref m_tape_a, .int m_typed, .int m_place, .int m_isFault, .ref m_read_a, .ref m_heard_a, .ref m_undone_a, .int m_undos, .ref m_aside_a, .ref m_kept_a, .int m_keptUndos, .int m_isKept, .ref m_lanes_a, .ref m_sizes_a, .ref m_items_a, .ref m_moved_a])), (m_now_a, .inl (cI, 65, .inl m_now))] := hD
                  refine lv_aload_n hx hb dX5_rivals_65 rfl (lv_at hl 0 rfl) ?_
                  refine lv_iload hx hb dX5_rivals_66 (lv_at hl 5 rfl) ?_
                  refine lv_iconst (v := 0) hx hb dX5_rivals_68 (by decide) ?_
                  obtain ⟨r32, hc33, hM⟩ := sx_c1_s hM
                  refine sx_iV (As := [.int x17, .int (0 : Int32)]) (rest := [.int r30]) (wc := [(m_h, .inr (5, [.ref m_now_a, .ref m_tape_a, .int m_typed, .int m_place, .int m_isFault, .ref m_read_a, .ref m_heard_a, .ref m_undone_a, .int m_undos, .ref m_aside_a, .ref m_kept_a, .int m_keptUndos, .int m_isKept, .ref m_lanes_a, .ref m_sizes_a, .ref m_items_a, .ref m_moved_a])), (m_now_a, .inl (cI, 65, .inl m_now))]) (wr := []) (w1 := [(m_h, .inr (5, [.ref m_now_a, .ref m_tape_a, .int m_typed, .int m_place, .int m_isFault, .ref m_read_a, .ref m_heard_a, .ref m_undone_a, .int m_undos, .ref m_aside_a, .ref m_kept_a, .int m_keptUndos, .int m_isKept, .ref m_lanes_a, .ref m_sizes_a, .ref m_items_a, .ref m_moved_a])), (m_now_a, .inl (cI, 65, .inl m_now))]) ⟨hx, hb, hml, hown, hts⟩ (mtX5_things l D cI cJ cS H.size m_h m_now_a m_tape_a m_read_a m_heard_a m_undone_a m_aside_a m_kept_a m_lanes_a m_sizes_a m_items_a m_moved_a m_now m_typed m_place m_isFault m_undos m_keptUndos m_isKept x17 (0 : Int32) F r32 hc33) (cwV 2 hts gX5_rivals_X5_things rfl rfl rfl (by decide +kernel) ⟨Nat.le_trans (by decide) hRf, Nat.le_trans (by decide) hRl⟩) hK hN hP hD hS hA [0, 1] [] rfl (by decide) rfl (by decide) (by decide) rfl rfl rfl rfl hl.1 rfl (Nat.le_of_ble_eq_true rfl) dX5_rivals_69 hRc (fun H locs hP hD hS => ?_)
                  have hP : va_P D vwCl [(m_h, .inr (5, [.ref m_now_a, .ref m_tape_a, .int m_typed, .int m_place, .int m_isFault, .ref m_read_a, .ref m_heard_a, .ref m_undone_a, .int m_undos, .ref m_aside_a, .ref m_kept_a, .int m_keptUndos, .int m_isKept, .ref m_lanes_a, .ref m_sizes_a, .ref m_items_a, .ref m_moved_a])), (m_now_a, .inl (cI, 65, .inl m_now))] H := hP
                  have hD : va_D A [(m_h, .inr (5, [.ref m_now_a, .ref m_tape_a, .int m_typed, .int m_place, .int m_isFault, .ref m_read_a, .ref m_heard_a, .ref m_undone_a, .int m_undos, .ref m_aside_a, .ref m_kept_a, .int m_keptUndos, .int m_isKept, .ref m_lanes_a, .ref m_sizes_a, .ref m_items_a, .ref m_moved_a])), (m_now_a, .inl (cI, 65, .inl m_now))] := hD
                  refine lv_icmp_ne (tgt := 79) hx hb dX5_rivals_72 (by decide) (fun c34 => ?_) (fun c34 => ?_)
                  · replace hM := sx_iff c34 hM
                    refine lv_iconst (v := 0) hx hb dX5_rivals_79 (by decide) ?_
                    exact hk_80 (0 : Int32) _ _ _ hM (lv_sub hl [0, 1, 2, 3, 4, 5] rfl) (hP.sub [0, 1] rfl) (hD.sub [0, 1] (by decide) rfl) hS
                  · replace hM := sx_ift c34 hM
                    refine lv_iconst (v := 1) hx hb dX5_rivals_75 (by decide) ?_
                    refine lv_goto (tgt := 80) hx hb dX5_rivals_76 (by decide) ?_
                    exact hk_80 (1 : Int32) _ _ _ hM (lv_sub hl [0, 1, 2, 3, 4, 5] rfl) (hP.sub [0, 1] rfl) (hD.sub [0, 1] (by decide) rfl) hS
          exact lp_37 F x7 x8 v11 _ _ _ hM (lv_sub hl [1, 2, 3, 4, 5, 0] rfl) (hP.sub [0, 1] rfl) (hD.sub [0, 1] (by decide) rfl) hS
    exact lp_20 F (0 : Int32) (-4 : Int32) (0 : Int32) _ _ _ hM (lv_sub hl [3, 4, 2, 1, 0] rfl) (hP.sub [0, 1] rfl) (hD.sub [0, 1] (by decide) rfl) hS
  · replace hM := sx_ift c3 hM
    refine lv_iconst (v := -1) hx hb dX5_rivals_10 (by decide) ?_
    obtain rfl := sx_o1 hM
    exact hret _ _ _ _ dX5_rivals_11 (hP.sub [0, 1] rfl) (hD.sub [0, 1] (by decide) rfl) hS
set_option maxHeartbeats 4000000 in
set_option maxRecDepth 100000 in
theorem mtX5_rivals (l : Launch) (D : va_G) (cI cJ cS : ClassId) (sz : Nat) (m_h m_now_a m_tape_a m_read_a m_heard_a m_undone_a m_aside_a m_kept_a m_lanes_a m_sizes_a m_items_a m_moved_a : Nat) (m_now : Nat → Int32) (m_typed : Int32) (m_place : Int32) (m_isFault : Int32) (m_undos : Int32) (m_keptUndos : Int32) (m_isKept : Int32) (a1 : Int32) (F : Nat) (r0 : Int32) (hM : fnX5_rivals F m_now a1 = some r0) : sx_MI l yX5_rivals wsX5_rivals ({ frames := 3, cells := 0, slots := 0, locals := 68 }) D (sx_T cI cJ cS) sz [.ref m_h, .int a1] [(m_h, .inr (5, [.ref m_now_a, .ref m_tape_a, .int m_typed, .int m_place, .int m_isFault, .ref m_read_a, .ref m_heard_a, .ref m_undone_a, .int m_undos, .ref m_aside_a, .ref m_kept_a, .int m_keptUndos, .int m_isKept, .ref m_lanes_a, .ref m_sizes_a, .ref m_items_a, .ref m_moved_a])), (m_now_a, .inl (cI, 65, .inl m_now))] r0 [(m_h, .inr (5, [.ref m_now_a, .ref m_tape_a, .int m_typed, .int m_place, .int m_isFault, .ref m_read_a, .ref m_heard_a, .ref m_undone_a, .int m_undos, .ref m_aside_a, .ref m_kept_a, .int m_keptUndos, .int m_isKept, .ref m_lanes_a, .ref m_sizes_a, .ref m_items_a, .ref m_moved_a])), (m_now_a, .inl (cI, 65, .inl m_now))] := by
  refine Met.ofW (cc := cX5_rivals) (maxL := 7) (ret := (some .int)) (by decide) rfl ?_
  intro p e s m args below meth c s₁ B hml hv
  obtain ⟨rfl, hsz, hN, hP, hK, hD0⟩ := hv
  subst hsz
  have hl := lv_entry ([.ref m_h, .int a1]) (n := 7) (Nat.le_of_ble_eq_true rfl)
  rw [lg_entry_eq]
  generalize (lg_sl ([.ref m_h, .int a1]) ++ List.replicate (7 - (lg_sl ([.ref m_h, .int a1])).length) Slot.unset).toArray = ls at hl ⊢
  exact kwX5_rivals B.exec B.bytes hml (findClass_of_methodNamed B.named) (atoms_spec (ws := wsX5_rivals) B.pre) hN hK (fun q h => Or.inr h) (by decide) (by decide) ⟨Nat.zero_le _, Nat.zero_le _⟩ m_h m_now_a m_tape_a m_read_a m_heard_a m_undone_a m_aside_a m_kept_a m_lanes_a m_sizes_a m_items_a m_moved_a m_now m_typed m_place m_isFault m_undos m_keptUndos m_isKept a1 F r0 hM _ _ _ hl hP hD0.self va_S.rf (fun H1 locs1 ls1 pc1 hd hP hD hS => W.iret (v := r0) B.exec B.bytes B.returns (fun t ht hW => ⟨⟨r0, (), rfl, rfl, by rw [ht]; exact hP, hD⟩, hS.F ht⟩) hS.2.2 hd)

def bdX5_from_99 (F : Nat) (x1_ : Int32) (x2_ : Int32) (x3_ : Int32) (kf_124 : Int32 → (Nat → Int32) → (Nat → Int32) → Option (Int32 × (Nat → Int32) × (Nat → Int32) × (Nat → Int32))) (r_ : Int32 → (Nat → Int32) → (Nat → Int32) → Option (Int32 × (Nat → Int32) × (Nat → Int32) × (Nat → Int32))) (x6_ : Int32) (m_now : Nat → Int32) (m_heard : Nat → Int32) : Option (Int32 × (Nat → Int32) × (Nat → Int32) × (Nat → Int32)) :=
  (if x2_ < x6_ then (kf_124 x6_ m_now m_heard) else sx_c1 (fnX5_isOut F m_now x1_) (fun (r31 : Int32) => (if r31 = 0 then sx_c2 (fnX5_goesBy F m_now m_heard x3_) (fun (w34 : Nat → Int32) (w35 : Nat → Int32) => sx_nm (x6_ + (1 : Int32)) (fun (v37 : Int32) => (r_ v37 w34 w35))) else (kf_124 x6_ m_now m_heard))))
def bdX5_from_52 (F : Nat) (x1_ : Int32) (x5_ : Int32) (kf_96 : (Nat → Int32) → Option (Int32 × (Nat → Int32) × (Nat → Int32) × (Nat → Int32))) (r_ : Int32 → (Nat → Int32) → Option (Int32 × (Nat → Int32) × (Nat → Int32) × (Nat → Int32))) (x6_ : Int32) (m_now : Nat → Int32) : Option (Int32 × (Nat → Int32) × (Nat → Int32) × (Nat → Int32)) :=
  (if (m_now ((0 : Int32)).toNatClampNeg) ≤ x6_ then (kf_96 m_now) else sx_lt (fun (y41 : Int32) => sx_gd (sx_ib (((17 : Int32) + ((8 : Int32) * x6_)) + x1_) 65) (sx_nm (x6_ + (1 : Int32)) (fun (v43 : Int32) => (r_ v43 (upd m_now ((((17 : Int32) + ((8 : Int32) * x6_)) + x1_)).toNatClampNeg y41))))) (fun (k_89 : Int32 → Option (Int32 × (Nat → Int32) × (Nat → Int32) × (Nat → Int32))) => (if x6_ = x5_ then (k_89 (0 : Int32)) else (k_89 (-1 : Int32)))))
def bdX5_from_38 (F : Nat) (x1_ : Int32) (x2_ : Int32) (x3_ : Int32) (m_aside : Nat → Int32) (r_ : Int32 → Int32 → (Nat → Int32) → (Nat → Int32) → Option (Int32 × (Nat → Int32) × (Nat → Int32) × (Nat → Int32))) (x4_ : Int32) (x5_ : Int32) (m_now : Nat → Int32) (m_heard : Nat → Int32) : Option (Int32 × (Nat → Int32) × (Nat → Int32) × (Nat → Int32)) :=
  (if (m_now ((0 : Int32)).toNatClampNeg) ≤ x5_ then (some (x4_, m_now, m_heard, m_aside)) else sx_lt (fun (z17 : Nat → Int32) => sx_lt (fun (x18 : Int32) (z19 : Nat → Int32) (z20 : Nat → Int32) => sx_lt (fun (y21 : Int32) => sx_nm (x4_ ||| y21) (fun (v22 : Int32) => sx_c1 (fnX5_backs F z19 m_aside) (fun (w23 : Nat → Int32) => sx_nm (x5_ + (1 : Int32)) (fun (v25 : Int32) => (r_ v22 v25 w23 z20))))) (fun (k_140 : Int32 → Option (Int32 × (Nat → Int32) × (Nat → Int32) × (Nat → Int32))) => (if x18 = x2_ then (k_140 ((1 : Int32) <<< (x5_ &&& 31))) else (k_140 (0 : Int32))))) (fun (k_124 : Int32 → (Nat → Int32) → (Nat → Int32) → Option (Int32 × (Nat → Int32) × (Nat → Int32) × (Nat → Int32))) => sx_lp3 (bdX5_from_99 F x1_ x2_ x3_ k_124) F (0 : Int32) z17 m_heard)) (fun (k_96 : (Nat → Int32) → Option (Int32 × (Nat → Int32) × (Nat → Int32) × (Nat → Int32))) => sx_lp2 (bdX5_from_52 F x1_ x5_ k_96) F (0 : Int32) m_now))
def fnX5_from (F : Nat) (m_now : Nat → Int32) (m_heard : Nat → Int32) (m_aside : Nat → Int32) (a1 : Int32) (a2 : Int32) (a3 : Int32) : Option (Int32 × (Nat → Int32) × (Nat → Int32) × (Nat → Int32)) :=
  sx_c1 (fnX5_isThing F a1) (fun (r1 : Int32) => (if r1 = 0 then (some ((-1 : Int32), m_now, m_heard, m_aside)) else sx_c1 (fnX5_in F (a2).toInt64 (0 : Int64) (60 : Int64)) (fun (r4 : Int32) => (if r4 = 0 then (some ((-1 : Int32), m_now, m_heard, m_aside)) else sx_c1 (fnX5_isHeat F a3) (fun (r7 : Int32) => (if r7 = 0 then (some ((-1 : Int32), m_now, m_heard, m_aside)) else sx_c1 (fnX5_asides F m_now m_aside) (fun (w10 : Nat → Int32) => sx_lp4 (bdX5_from_38 F a1 a2 a3 w10) F (0 : Int32) (0 : Int32) m_now m_heard)))))))
set_option maxHeartbeats 4000000 in
set_option maxRecDepth 100000 in
theorem kwX5_from {p : Program} {l : Launch} {e : Env} {R : Room} {s : State} {m : MethodId} {args : Array Value} {below : List Frame} {meth : Method} {c : Code} {cells slots : Nat} {Q : State → Prop} {A : Nat → Prop} {H0 : Heap} {D : va_G} {cI cJ cS : ClassId} (hx : p.tables.exec = Jvm.exec) (hb : c.code = cX5_from) (hml : c.maxLocals = 7) (hown : s.vm.findClass RX5 = some m.cls) (hts : ∀ w ∈ wsX5_from, w.before args s = true) (hN : sx_N s) (hK : va_K D vwCl (sx_T cI cJ cS) s) (hA : ∀ q, H0.size ≤ q → A q) (hRf : 4 ≤ R.frames) (hRl : 88 ≤ R.locals) (hRc : cells ≤ R.cells ∧ slots ≤ R.slots) (m_h m_now_a m_tape_a m_read_a m_heard_a m_undone_a m_aside_a m_kept_a m_lanes_a m_sizes_a m_items_a m_moved_a : Nat) (m_now : Nat → Int32) (m_typed : Int32) (m_place : Int32) (m_isFault : Int32) (m_heard : Nat → Int32) (m_undos : Int32) (m_aside : Nat → Int32) (m_keptUndos : Int32) (m_isKept : Int32) (a1 : Int32) (a2 : Int32) (a3 : Int32) (F : Nat) (r0 : Int32) (w_m_now : Nat → Int32) (w_m_heard : Nat → Int32) (w_m_aside : Nat → Int32) (hM : fnX5_from F m_now m_heard m_aside a1 a2 a3 = some (r0, w_m_now, w_m_heard, w_m_aside)) (H : Heap) (locs : List Loc) (ls : Array Slot) (hl : lv_has ls 7 [(0, .ref m_h), (1, .int a1), (2, .int a2), (3, .int a3)]) (hP : va_P D vwCl [(m_h, .inr (5, [.ref m_now_a, .ref m_tape_a, .int m_typed, .int m_place, .int m_isFault, .ref m_read_a, .ref m_heard_a, .ref m_undone_a, .int m_undos, .ref m_aside_a, .ref m_kept_a, .int m_keptUndos, .int m_isKept, .ref m_lanes_a, .ref m_sizes_a, .ref m_items_a, .ref m_moved_a])), (m_now_a, .inl (cI, 65, .inl m_now)), (m_heard_a, .inl (cI, 8, .inl m_heard)), (m_aside_a, .inl (cI, 65, .inl m_aside))] H) (hD : va_D A [(m_h, .inr (5, [.ref m_now_a, .ref m_tape_a, .int m_typed, .int m_place, .int m_isFault, .ref m_read_a, .ref m_heard_a, .ref m_undone_a, .int m_undos, .ref m_aside_a, .ref m_kept_a, .int m_keptUndos, .int m_isKept, .ref m_lanes_a, .ref m_sizes_a, .ref m_items_a, .ref m_moved_a])), (m_now_a, .inl (cI, 65, .inl m_now)), (m_heard_a, .inl (cI, 8, .inl m_heard)), (m_aside_a, .inl (cI, 65, .inl m_aside))]) (hS : va_S A H0 H locs)
    (hret : ∀ (H1 : Heap) (locs1 : List Loc) (ls1 : Array Slot) (pc1 : Nat), decode cX5_from pc1 = .ok (.ireturn, 1) → va_P D vwCl [(m_h, .inr (5, [.ref m_now_a, .ref m_tape_a, .int m_typed, .int m_place, .int m_isFault, .ref m_read_a, .ref m_heard_a, .ref m_undone_a, .int m_undos, .ref m_aside_a, .ref m_kept_a, .int m_keptUndos, .int m_isKept, .ref m_lanes_a, .ref m_sizes_a, .ref m_items_a, .ref m_moved_a])), (m_now_a, .inl (cI, 65, .inl w_m_now)), (m_heard_a, .inl (cI, 8, .inl w_m_heard)), (m_aside_a, .inl (cI, 65, .inl w_m_aside))] H1 → va_D A [(m_h, .inr (5, [.ref m_now_a, .ref m_tape_a, .int m_typed, .int m_place, .int m_isFault, .ref m_read_a, .ref m_heard_a, .ref m_undone_a, .int m_undos, .ref m_aside_a, .ref m_kept_a, .int m_keptUndos, .int m_isKept, .ref m_lanes_a, .ref m_sizes_a, .ref m_items_a, .ref m_moved_a])), (m_now_a, .inl (cI, 65, .inl w_m_now)), (m_heard_a, .inl (cI, 8, .inl w_m_heard)), (m_aside_a, .inl (cI, 65, .inl w_m_aside))] → va_S A H0 H1 locs1 → W p l e R s m args below meth c H1 locs1 cells slots Q (F0 m pc1 ls1 [.int r0])) : W p l e R s m args below meth c H locs cells slots Q (F0 m 0 ls []) := by
  have hf_7 := hts (.fieldLink RX5 7 "SealedLipsModel" "now" "[I") (by decide +kernel)
  have hin_X5 : ∀ w ∈ wsX50, w ∈ wsX5_from := by decide +kernel
  unfold fnX5_from at hM
  refine lv_iload_n hx hb dX5_from_0 rfl (lv_at hl 1 rfl) ?_
  obtain ⟨r1, hc2, hM⟩ := sx_c1_s hM
  refine sx_iS (As := [.int a1]) (rest := []) (wc := []) (wr := [(m_h, .inr (5, [.ref m_now_a, .ref m_tape_a, .int m_typed, .int m_place, .int m_isFault, .ref m_read_a, .ref m_heard_a, .ref m_undone_a, .int m_undos, .ref m_aside_a, .ref m_kept_a, .int m_keptUndos, .int m_isKept, .ref m_lanes_a, .ref m_sizes_a, .ref m_items_a, .ref m_moved_a])), (m_now_a, .inl (cI, 65, .inl m_now)), (m_heard_a, .inl (cI, 8, .inl m_heard)), (m_aside_a, .inl (cI, 65, .inl m_aside))]) (w1 := []) ⟨hx, hb, hml, hown, hts⟩ (mtX5_isThing l D cI cJ cS H.size a1 F r1 hc2) (va_cwS 1 hts gX5_from_X5_isThing rfl rfl rfl (by decide +kernel) ⟨Nat.le_trans (by decide) hRf, Nat.le_trans (by decide) hRl⟩) hK hN hP hD hS hA [] [0, 1, 2, 3] rfl (by decide) rfl (by decide) (by decide) rfl hl.1 rfl (Nat.le_of_ble_eq_true rfl) dX5_from_1 hRc (fun H locs hP hD hS => ?_)
  have hP : va_P D vwCl [(m_h, .inr (5, [.ref m_now_a, .ref m_tape_a, .int m_typed, .int m_place, .int m_isFault, .ref m_read_a, .ref m_heard_a, .ref m_undone_a, .int m_undos, .ref m_aside_a, .ref m_kept_a, .int m_keptUndos, .int m_isKept, .ref m_lanes_a, .ref m_sizes_a, .ref m_items_a, .ref m_moved_a])), (m_now_a, .inl (cI, 65, .inl m_now)), (m_heard_a, .inl (cI, 8, .inl m_heard)), (m_aside_a, .inl (cI, 65, .inl m_aside))] H := hP
  have hD : va_D A [(m_h, .inr (5, [.ref m_now_a, .ref m_tape_a, .int m_typed, .int m_place, .int m_isFault, .ref m_read_a, .ref m_heard_a, .ref m_undone_a, .int m_undos, .ref m_aside_a, .ref m_kept_a, .int m_keptUndos, .int m_isKept, .ref m_lanes_a, .ref m_sizes_a, .ref m_items_a, .ref m_moved_a])), (m_now_a, .inl (cI, 65, .inl m_now)), (m_heard_a, .inl (cI, 8, .inl m_heard)), (m_aside_a, .inl (cI, 65, .inl m_aside))] := hD
  refine lv_if_eq (tgt := 26) hx hb dX5_from_4 (by decide) (fun c3 => ?_) (fun c3 => ?_)
  · replace hM := sx_ift c3 hM
    refine lv_iconst (v := -1) hx hb dX5_from_26 (by decide) ?_
    obtain ⟨rfl, rfl, rfl, rfl⟩ := sx_o4 hM
    exact hret _ _ _ _ dX5_from_27 (hP.sub [0, 1, 2, 3] rfl) (hD.sub [0, 1, 2, 3] (by decide) rfl) hS
  · replace hM := sx_iff c3 hM
    refine lv_iload_n hx hb dX5_from_7 rfl (lv_at hl 2 rfl) ?_
    refine lv_i2l hx hb dX5_from_8 rfl ?_
    refine lv_lconst (v := 0) hx hb dX5_from_9 (by decide) ?_
    refine lv_ldc2 (v := 60) hx hb hown (hts (.constantLong RX5 172 (60)) (by decide +kernel)) dX5_from_10 ?_
    obtain ⟨r4, hc5, hM⟩ := sx_c1_s hM
    refine sx_iS (As := [.long (a2).toInt64, .long (0 : Int64), .long (60 : Int64)]) (rest := []) (wc := []) (wr := [(m_h, .inr (5, [.ref m_now_a, .ref m_tape_a, .int m_typed, .int m_place, .int m_isFault, .ref m_read_a, .ref m_heard_a, .ref m_undone_a, .int m_undos, .ref m_aside_a, .ref m_kept_a, .int m_keptUndos, .int m_isKept, .ref m_lanes_a, .ref m_sizes_a, .ref m_items_a, .ref m_moved_a])), (m_now_a, .inl (cI, 65, .inl m_now)), (m_heard_a, .inl (cI, 8, .inl m_heard)), (m_aside_a, .inl (cI, 65, .inl m_aside))]) (w1 := []) ⟨hx, hb, hml, hown, hts⟩ (mtX5_in l D cI cJ cS H.size (a2).toInt64 (0 : Int64) (60 : Int64) F r4 hc5) (va_cwS 3 hts gX5_from_X5_in rfl rfl rfl (by decide +kernel) ⟨Nat.le_trans (by decide) hRf, Nat.le_trans (by decide) hRl⟩) hK hN hP hD hS hA [] [0, 1, 2, 3] rfl (by decide) rfl (by decide) (by decide) rfl hl.1 rfl (Nat.le_of_ble_eq_true rfl) dX5_from_13 hRc (fun H locs hP hD hS => ?_)
    have hP : va_P D vwCl [(m_h, .inr (5, [.ref m_now_a, .ref m_tape_a, .int m_typed, .int m_place, .int m_isFault, .ref m_read_a, .ref m_heard_a, .ref m_undone_a, .int m_undos, .ref m_aside_a, .ref m_kept_a, .int m_keptUndos, .int m_isKept, .ref m_lanes_a, .ref m_sizes_a, .ref m_items_a, .ref m_moved_a])), (m_now_a, .inl (cI, 65, .inl m_now)), (m_heard_a, .inl (cI, 8, .inl m_heard)), (m_aside_a, .inl (cI, 65, .inl m_aside))] H := hP
    have hD : va_D A [(m_h, .inr (5, [.ref m_now_a, .ref m_tape_a, .int m_typed, .int m_place, .int m_isFault, .ref m_read_a, .ref m_heard_a, .ref m_undone_a, .int m_undos, .ref m_aside_a, .ref m_kept_a, .int m_keptUndos, .int m_isKept, .ref m_lanes_a, .ref m_sizes_a, .ref m_items_a, .ref m_moved_a])), (m_now_a, .inl (cI, 65, .inl m_now)), (m_heard_a, .inl (cI, 8, .inl m_heard)), (m_aside_a, .inl (cI, 65, .inl m_aside))] := hD
    refine lv_if_eq (tgt := 26) hx hb dX5_from_16 (by decide) (fun c6 => ?_) (fun c6 => ?_)
    · replace hM := sx_ift c6 hM
      refine lv_iconst (v := -1) hx hb dX5_from_26 (by decide) ?_
      obtain ⟨rfl, rfl, rfl, rfl⟩ := sx_o4 hM
      exact hret _ _ _ _ dX5_from_27 (hP.sub [0, 1, 2, 3] rfl) (hD.sub [0, 1, 2, 3] (by decide) rfl) hS
    · replace hM := sx_iff c6 hM
      refine lv_iload_n hx hb dX5_from_19 rfl (lv_at hl 3 rfl) ?_
      obtain ⟨r7, hc8, hM⟩ := sx_c1_s hM
      refine sx_iS (As := [.int a3]) (rest := []) (wc := []) (wr := [(m_h, .inr (5, [.ref m_now_a, .ref m_tape_a, .int m_typed, .int m_place, .int m_isFault, .ref m_read_a, .ref m_heard_a, .ref m_undone_a, .int m_undos, .ref m_aside_a, .ref m_kept_a, .int m_keptUndos, .int m_isKept, .ref m_lanes_a, .ref m_sizes_a, .ref m_items_a, .ref m_moved_a])), (m_now_a, .inl (cI, 65, .inl m_now)), (m_heard_a, .inl (cI, 8, .inl m_heard)), (m_aside_a, .inl (cI, 65, .inl m_aside))]) (w1 := []) ⟨hx, hb, hml, hown, hts⟩ (mtX5_isHeat l D cI cJ cS H.size a3 F r7 hc8) (va_cwS 1 hts gX5_from_X5_isHeat rfl rfl rfl (by decide +kernel) ⟨Nat.le_trans (by decide) hRf, Nat.le_trans (by decide) hRl⟩) hK hN hP hD hS hA [] [0, 1, 2, 3] rfl (by decide) rfl (by decide) (by decide) rfl hl.1 rfl (Nat.le_of_ble_eq_true rfl) dX5_from_20 hRc (fun H locs hP hD hS => ?_)
      have hP : va_P D vwCl [(m_h, .inr (5, [.ref m_now_a, .ref m_tape_a, .int m_typed, .int m_place, .int m_isFault, .ref m_read_a, .ref m_heard_a, .ref m_undone_a, .int m_undos, .ref m_aside_a, .ref m_kept_a, .int m_keptUndos, .int m_isKept, .ref m_lanes_a, .ref m_sizes_a, .ref m_items_a, .ref m_moved_a])), (m_now_a, .inl (cI, 65, .inl m_now)), (m_heard_a, .inl (cI, 8, .inl m_heard)), (m_aside_a, .inl (cI, 65, .inl m_aside))] H := hP
      have hD : va_D A [(m_h, .inr (5, [.ref m_now_a, .ref m_tape_a, .int m_typed, .int m_place, .int m_isFault, .ref m_read_a, .ref m_heard_a, .ref m_undone_a, .int m_undos, .ref m_aside_a, .ref m_kept_a, .int m_keptUndos, .int m_isKept, .ref m_lanes_a, .ref m_sizes_a, .ref m_items_a, .ref m_moved_a])), (m_now_a, .inl (cI, 65, .inl m_now)), (m_heard_a, .inl (cI, 8, .inl m_heard)), (m_aside_a, .inl (cI, 65, .inl m_aside))] := hD
      refine lv_if_ne (tgt := 28) hx hb dX5_from_23 (by decide) (fun c9 => ?_) (fun c9 => ?_)
      · replace hM := sx_iff c9 hM
        refine lv_iconst (v := 0) hx hb dX5_from_28 (by decide) ?_
        refine lv_istore (lv' := [(4, .int (0 : Int32)), (0, .ref m_h), (1, .int a1), (2, .int a2), (3, .int a3)]) hx hb dX5_from_29 hl (by decide) rfl (fun ls hl => ?_)
        refine lv_aload_n hx hb dX5_from_31 rfl (lv_at hl 1 rfl) ?_
        obtain ⟨w10, hc11, hM⟩ := sx_c1_s hM
        refine sx_vV (As := []) (rest := []) (wc := [(m_h, .inr (5, [.ref m_now_a, .ref m_tape_a, .int m_typed, .int m_place, .int m_isFault, .ref m_read_a, .ref m_heard_a, .ref m_undone_a, .int m_undos, .ref m_aside_a, .ref m_kept_a, .int m_keptUndos, .int m_isKept, .ref m_lanes_a, .ref m_sizes_a, .ref m_items_a, .ref m_moved_a])), (m_now_a, .inl (cI, 65, .inl m_now)), (m_aside_a, .inl (cI, 65, .inl m_aside))]) (wr := [(m_heard_a, .inl (cI, 8, .inl m_heard))]) (w1 := [(m_h, .inr (5, [.ref m_now_a, .ref m_tape_a, .int m_typed, .int m_place, .int m_isFault, .ref m_read_a, .ref m_heard_a, .ref m_undone_a, .int m_undos, .ref m_aside_a, .ref m_kept_a, .int m_keptUndos, .int m_isKept, .ref m_lanes_a, .ref m_sizes_a, .ref m_items_a, .ref m_moved_a])), (m_now_a, .inl (cI, 65, .inl m_now)), (m_aside_a, .inl (cI, 65, .inl w10))]) ⟨hx, hb, hml, hown, hts⟩ (mtX5_asides l D cI cJ cS H.size m_h m_now_a m_tape_a m_read_a m_heard_a m_undone_a m_aside_a m_kept_a m_lanes_a m_sizes_a m_items_a m_moved_a m_now m_typed m_place m_isFault m_undos m_aside m_keptUndos m_isKept F w10 hc11) (cwV 0 hts gX5_from_X5_asides rfl rfl rfl (by decide +kernel) ⟨Nat.le_trans (by decide) hRf, Nat.le_trans (by decide) hRl⟩) hK hN hP hD hS hA [0, 1, 3] [2] rfl (by decide) rfl (by decide) (by decide) rfl rfl rfl rfl hl.1 rfl (Nat.le_of_ble_eq_true rfl) dX5_from_32 hRc (fun H locs hP hD hS => ?_)
        have hP : va_P D vwCl [(m_heard_a, .inl (cI, 8, .inl m_heard)), (m_h, .inr (5, [.ref m_now_a, .ref m_tape_a, .int m_typed, .int m_place, .int m_isFault, .ref m_read_a, .ref m_heard_a, .ref m_undone_a, .int m_undos, .ref m_aside_a, .ref m_kept_a, .int m_keptUndos, .int m_isKept, .ref m_lanes_a, .ref m_sizes_a, .ref m_items_a, .ref m_moved_a])), (m_now_a, .inl (cI, 65, .inl m_now)), (m_aside_a, .inl (cI, 65, .inl w10))] H := hP
        have hD : va_D A [(m_heard_a, .inl (cI, 8, .inl m_heard)), (m_h, .inr (5, [.ref m_now_a, .ref m_tape_a, .int m_typed, .int m_place, .int m_isFault, .ref m_read_a, .ref m_heard_a, .ref m_undone_a, .int m_undos, .ref m_aside_a, .ref m_kept_a, .int m_keptUndos, .int m_isKept, .ref m_lanes_a, .ref m_sizes_a, .ref m_items_a, .ref m_moved_a])), (m_now_a, .inl (cI, 65, .inl m_now)), (m_aside_a, .inl (cI, 65, .inl w10))] := hD
        refine lv_iconst (v := 0) hx hb dX5_from_35 (by decide) ?_
        refine lv_istore (lv' := [(5, .int (0 : Int32)), (4, .int (0 : Int32)), (0, .ref m_h), (1, .int a1), (2, .int a2), (3, .int a3)]) hx hb dX5_from_36 hl (by decide) rfl (fun ls hl => ?_)
        have lp_38 : ∀ (n : Nat) (x12 : Int32) (x13 : Int32) (z14 : Nat → Int32) (z15 : Nat → Int32) (H : Heap) (locs : List Loc) (ls : Array Slot), sx_lp4 (bdX5_from_38 F a1 a2 a3 w10) n x12 x13 z14 z15 = some (r0, w_m_now, w_m_heard, w_m_aside) → lv_has ls 7 [(0, .ref m_h), (1, .int a1), (2, .int a2), (3, .int a3), (4, .int x12), (5, .int x13)] → va_P D vwCl [(m_heard_a, .inl (cI, 8, .inl z15)), (m_h, .inr (5, [.ref m_now_a, .ref m_tape_a, .int m_typed, .int m_place, .int m_isFault, .ref m_read_a, .ref m_heard_a, .ref m_undone_a, .int m_undos, .ref m_aside_a, .ref m_kept_a, .int m_keptUndos, .int m_isKept, .ref m_lanes_a, .ref m_sizes_a, .ref m_items_a, .ref m_moved_a])), (m_now_a, .inl (cI, 65, .inl z14)), (m_aside_a, .inl (cI, 65, .inl w10))] H → va_D A [(m_heard_a, .inl (cI, 8, .inl z15)), (m_h, .inr (5, [.ref m_now_a, .ref m_tape_a, .int m_typed, .int m_place, .int m_isFault, .ref m_read_a, .ref m_heard_a, .ref m_undone_a, .int m_undos, .ref m_aside_a, .ref m_kept_a, .int m_keptUndos, .int m_isKept, .ref m_lanes_a, .ref m_sizes_a, .ref m_items_a, .ref m_moved_a])), (m_now_a, .inl (cI, 65, .inl z14)), (m_aside_a, .inl (cI, 65, .inl w10))] → va_S A H0 H locs → W p l e R s m args below meth c H locs cells slots Q (F0 m 38 ls ([])) := by
          intro n
          induction n with
          | zero => intro x12 x13 z14 z15 H locs ls hM; exact (sx_lp4_0 hM).elim
          | succ n ih =>
            intro x12 x13 z14 z15 H locs ls hM hl hP hD hS
            have hM : bdX5_from_38 F a1 a2 a3 w10 (sx_lp4 (bdX5_from_38 F a1 a2 a3 w10) n) x12 x13 z14 z15 = some (r0, w_m_now, w_m_heard, w_m_aside) := hM
            generalize sx_lp4 (bdX5_from_38 F a1 a2 a3 w10) n = r_38 at hM ih
            unfold bdX5_from_38 at hM
            refine lv_iload hx hb dX5_from_38 (lv_at hl 5 rfl) ?_
            refine lv_aload_n hx hb dX5_from_40 rfl (lv_at hl 0 rfl) ?_
            refine va_get (D := D) (ci := 5) (v := .ref m_now_a) (C := RX5) (T := TX5) (N := 17) hx hb hts hin_X5 hown hK hP 1 rfl rfl 0 (by decide) hf_7 (fun _ h9 => h9) rfl dX5_from_41 ?_
            refine lv_iconst (v := 0) hx hb dX5_from_44 (by decide) ?_
            refine va_iald hx hb hK hP 2 0 rfl rfl (sx_ib_s (by decide)) dX5_from_45 ?_
            refine lv_icmp_ge (tgt := 153) hx hb dX5_from_46 (by decide) (fun c16 => ?_) (fun c16 => ?_)
            · replace hM := sx_ift c16 hM
              refine lv_iload hx hb dX5_from_153 (lv_at hl 4 rfl) ?_
              obtain ⟨rfl, rfl, rfl, rfl⟩ := sx_o4 hM
              exact hret _ _ _ _ dX5_from_155 (hP.sub [1, 2, 0, 3] rfl) (hD.sub [1, 2, 0, 3] (by decide) rfl) hS
            · replace hM := sx_iff c16 hM
              refine lv_iconst (v := 0) hx hb dX5_from_49 (by decide) ?_
              refine lv_istore (lv' := [(6, .int (0 : Int32)), (0, .ref m_h), (1, .int a1), (2, .int a2), (3, .int a3), (4, .int x12), (5, .int x13)]) hx hb dX5_from_50 hl (by decide) rfl (fun ls hl => ?_)
              obtain ⟨k_96, ek_96, hM⟩ := sx_lt_s hM
              have hk_96 : ∀ (z17 : Nat → Int32) (H : Heap) (locs : List Loc) (ls : Array Slot), k_96 z17 = some (r0, w_m_now, w_m_heard, w_m_aside) → lv_has ls 7 [(0, .ref m_h), (1, .int a1), (2, .int a2), (3, .int a3), (4, .int x12), (5, .int x13)] → va_P D vwCl [(m_heard_a, .inl (cI, 8, .inl z15)), (m_h, .inr (5, [.ref m_now_a, .ref m_tape_a, .int m_typed, .int m_place, .int m_isFault, .ref m_read_a, .ref m_heard_a, .ref m_undone_a, .int m_undos, .ref m_aside_a, .ref m_kept_a, .int m_keptUndos, .int m_isKept, .ref m_lanes_a, .ref m_sizes_a, .ref m_items_a, .ref m_moved_a])), (m_now_a, .inl (cI, 65, .inl z17)), (m_aside_a, .inl (cI, 65, .inl w10))] H → va_D A [(m_heard_a, .inl (cI, 8, .inl z15)), (m_h, .inr (5, [.ref m_now_a, .ref m_tape_a, .int m_typed, .int m_place, .int m_isFault, .ref m_read_a, .ref m_heard_a, .ref m_undone_a, .int m_undos, .ref m_aside_a, .ref m_kept_a, .int m_keptUndos, .int m_isKept, .ref m_lanes_a, .ref m_sizes_a, .ref m_items_a, .ref m_moved_a])), (m_now_a, .inl (cI, 65, .inl z17)), (m_aside_a, .inl (cI, 65, .inl w10))] → va_S A H0 H locs → W p l e R s m args below meth c H locs cells slots Q (F0 m 96 ls ([])) := by
                intro z17 H locs ls hM hl hP hD hS
                rw [ek_96] at hM
                refine lv_iconst (v := 0) hx hb dX5_from_96 (by decide) ?_
                refine lv_istore (lv' := [(6, .int (0 : Int32)), (0, .ref m_h), (1, .int a1), (2, .int a2), (3, .int a3), (4, .int x12), (5, .int x13)]) hx hb dX5_from_97 hl (by decide) rfl (fun ls hl => ?_)
                obtain ⟨k_124, ek_124, hM⟩ := sx_lt_s hM
                have hk_124 : ∀ (x18 : Int32) (z19 : Nat → Int32) (z20 : Nat → Int32) (H : Heap) (locs : List Loc) (ls : Array Slot), k_124 x18 z19 z20 = some (r0, w_m_now, w_m_heard, w_m_aside) → lv_has ls 7 [(0, .ref m_h), (1, .int a1), (2, .int a2), (3, .int a3), (4, .int x12), (5, .int x13), (6, .int x18)] → va_P D vwCl [(m_heard_a, .inl (cI, 8, .inl z20)), (m_h, .inr (5, [.ref m_now_a, .ref m_tape_a, .int m_typed, .int m_place, .int m_isFault, .ref m_read_a, .ref m_heard_a, .ref m_undone_a, .int m_undos, .ref m_aside_a, .ref m_kept_a, .int m_keptUndos, .int m_isKept, .ref m_lanes_a, .ref m_sizes_a, .ref m_items_a, .ref m_moved_a])), (m_now_a, .inl (cI, 65, .inl z19)), (m_aside_a, .inl (cI, 65, .inl w10))] H → va_D A [(m_heard_a, .inl (cI, 8, .inl z20)), (m_h, .inr (5, [.ref m_now_a, .ref m_tape_a, .int m_typed, .int m_place, .int m_isFault, .ref m_read_a, .ref m_heard_a, .ref m_undone_a, .int m_undos, .ref m_aside_a, .ref m_kept_a, .int m_keptUndos, .int m_isKept, .ref m_lanes_a, .ref m_sizes_a, .ref m_items_a, .ref m_moved_a])), (m_now_a, .inl (cI, 65, .inl z19)), (m_aside_a, .inl (cI, 65, .inl w10))] → va_S A H0 H locs → W p l e R s m args below meth c H locs cells slots Q (F0 m 124 ls ([])) := by
                  intro x18 z19 z20 H locs ls hM hl hP hD hS
                  rw [ek_124] at hM
                  refine lv_iload hx hb dX5_from_124 (lv_at hl 4 rfl) ?_
                  refine lv_iload hx hb dX5_from_126 (lv_at hl 6 rfl) ?_
                  refine lv_iload_n hx hb dX5_from_128 rfl (lv_at hl 2 rfl) ?_
                  obtain ⟨k_140, ek_140, hM⟩ := sx_lt_s hM
                  have hk_140 : ∀ (y21 : Int32) (H : Heap) (locs : List Loc) (ls : Array Slot), k_140 y21 = some (r0, w_m_now, w_m_heard, w_m_aside) → lv_has ls 7 [(0, .ref m_h), (1, .int a1), (2, .int a2), (3, .int a3), (5, .int x13)] → va_P D vwCl [(m_heard_a, .inl (cI, 8, .inl z20)), (m_h, .inr (5, [.ref m_now_a, .ref m_tape_a, .int m_typed, .int m_place, .int m_isFault, .ref m_read_a, .ref m_heard_a, .ref m_undone_a, .int m_undos, .ref m_aside_a, .ref m_kept_a, .int m_keptUndos, .int m_isKept, .ref m_lanes_a, .ref m_sizes_a, .ref m_items_a, .ref m_moved_a])), (m_now_a, .inl (cI, 65, .inl z19)), (m_aside_a, .inl (cI, 65, .inl w10))] H → va_D A [(m_heard_a, .inl (cI, 8, .inl z20)), (m_h, .inr (5, [.ref m_now_a, .ref m_tape_a, .int m_typed, .int m_place, .int m_isFault, .ref m_read_a, .ref m_heard_a, .ref m_undone_a, .int m_undos, .ref m_aside_a, .ref m_kept_a, .int m_keptUndos, .int m_isKept, .ref m_lanes_a, .ref m_sizes_a, .ref m_items_a, .ref m_moved_a])), (m_now_a, .inl (cI, 65, .inl z19)), (m_aside_a, .inl (cI, 65, .inl w10))] → va_S A H0 H locs → W p l e R s m args below meth c H locs cells slots Q (F0 m 140 ls (.int y21 :: .int x12 :: [])) := by
                    intro y21 H locs ls hM hl hP hD hS
                    rw [ek_140] at hM
                    refine lv_ior hx hb dX5_from_140 ?_
                    obtain ⟨v22, ev22, hM⟩ := sx_nm_s hM
                    refine W.eq (g2 := F0 m 141 ls (.int v22 :: [])) (by subst ev22; rfl) ?_
                    refine lv_istore (lv' := [(4, .int v22), (0, .ref m_h), (1, .int a1), (2, .int a2), (3, .int a3), (5, .int x13)]) hx hb dX5_from_141 hl (by decide) rfl (fun ls hl => ?_)
                    refine lv_aload_n hx hb dX5_from_143 rfl (lv_at hl 1 rfl) ?_
                    obtain ⟨w23, hc24, hM⟩ := sx_c1_s hM
                    refine sx_vV (As := []) (rest := []) (wc := [(m_h, .inr (5, [.ref m_now_a, .ref m_tape_a, .int m_typed, .int m_place, .int m_isFault, .ref m_read_a, .ref m_heard_a, .ref m_undone_a, .int m_undos, .ref m_aside_a, .ref m_kept_a, .int m_keptUndos, .int m_isKept, .ref m_lanes_a, .ref m_sizes_a, .ref m_items_a, .ref m_moved_a])), (m_now_a, .inl (cI, 65, .inl z19)), (m_aside_a, .inl (cI, 65, .inl w10))]) (wr := [(m_heard_a, .inl (cI, 8, .inl z20))]) (w1 := [(m_h, .inr (5, [.ref m_now_a, .ref m_tape_a, .int m_typed, .int m_place, .int m_isFault, .ref m_read_a, .ref m_heard_a, .ref m_undone_a, .int m_undos, .ref m_aside_a, .ref m_kept_a, .int m_keptUndos, .int m_isKept, .ref m_lanes_a, .ref m_sizes_a, .ref m_items_a, .ref m_moved_a])), (m_now_a, .inl (cI, 65, .inl w23)), (m_aside_a, .inl (cI, 65, .inl w10))]) ⟨hx, hb, hml, hown, hts⟩ (mtX5_backs l D cI cJ cS H.size m_h m_now_a m_tape_a m_read_a m_heard_a m_undone_a m_aside_a m_kept_a m_lanes_a m_sizes_a m_items_a m_moved_a z19 m_typed m_place m_isFault m_undos w10 m_keptUndos m_isKept F w23 hc24) (cwV 0 hts gX5_from_X5_backs rfl rfl rfl (by decide +kernel) ⟨Nat.le_trans (by decide) hRf, Nat.le_trans (by decide) hRl⟩) hK hN hP hD hS hA [1, 2, 3] [0] rfl (by decide) rfl (by decide) (by decide) rfl rfl rfl rfl hl.1 rfl (Nat.le_of_ble_eq_true rfl) dX5_from_144 hRc (fun H locs hP hD hS => ?_)
                    have hP : va_P D vwCl [(m_heard_a, .inl (cI, 8, .inl z20)), (m_h, .inr (5, [.ref m_now_a, .ref m_tape_a, .int m_typed, .int m_place, .int m_isFault, .ref m_read_a, .ref m_heard_a, .ref m_undone_a, .int m_undos, .ref m_aside_a, .ref m_kept_a, .int m_keptUndos, .int m_isKept, .ref m_lanes_a, .ref m_sizes_a, .ref m_items_a, .ref m_moved_a])), (m_now_a, .inl (cI, 65, .inl w23)), (m_aside_a, .inl (cI, 65, .inl w10))] H := hP
                    have hD : va_D A [(m_heard_a, .inl (cI, 8, .inl z20)), (m_h, .inr (5, [.ref m_now_a, .ref m_tape_a, .int m_typed, .int m_place, .int m_isFault, .ref m_read_a, .ref m_heard_a, .ref m_undone_a, .int m_undos, .ref m_aside_a, .ref m_kept_a, .int m_keptUndos, .int m_isKept, .ref m_lanes_a, .ref m_sizes_a, .ref m_items_a, .ref m_moved_a])), (m_now_a, .inl (cI, 65, .inl w23)), (m_aside_a, .inl (cI, 65, .inl w10))] := hD
                    obtain ⟨v25, ev25, hM⟩ := sx_nm_s hM
                    refine lv_iinc (v := v25) (lv' := [(5, .int v25), (4, .int v22), (0, .ref m_h), (1, .int a1), (2, .int a2), (3, .int a3)]) hx hb dX5_from_147 hl (k := 5) rfl (by rw [ev25]; rfl) (by decide) rfl (fun ls hl => ?_)
                    refine lv_goto (tgt := 38) hx hb dX5_from_150 (by decide) ?_
                    exact ih v22 v25 w23 z20 _ _ _ hM (lv_sub hl [2, 3, 4, 5, 1, 0] rfl) (hP.sub [0, 1, 2, 3] rfl) (hD.sub [0, 1, 2, 3] (by decide) rfl) hS
                  refine lv_icmp_ne (tgt := 139) hx hb dX5_from_129 (by decide) (fun c26 => ?_) (fun c26 => ?_)
                  · replace hM := sx_iff c26 hM
                    refine lv_iconst (v := 0) hx hb dX5_from_139 (by decide) ?_
                    exact hk_140 (0 : Int32) _ _ _ hM (lv_sub hl [0, 1, 2, 3, 5] rfl) (hP.sub [0, 1, 2, 3] rfl) (hD.sub [0, 1, 2, 3] (by decide) rfl) hS
                  · replace hM := sx_ift c26 hM
                    refine lv_iconst (v := 1) hx hb dX5_from_132 (by decide) ?_
                    refine lv_iload hx hb dX5_from_133 (lv_at hl 5 rfl) ?_
                    refine lv_ishl hx hb dX5_from_135 ?_
                    refine lv_goto (tgt := 140) hx hb dX5_from_136 (by decide) ?_
                    exact hk_140 ((1 : Int32) <<< (x13 &&& 31)) _ _ _ hM (lv_sub hl [0, 1, 2, 3, 5] rfl) (hP.sub [0, 1, 2, 3] rfl) (hD.sub [0, 1, 2, 3] (by decide) rfl) hS
                have lp_99 : ∀ (n : Nat) (x27 : Int32) (z28 : Nat → Int32) (z29 : Nat → Int32) (H : Heap) (locs : List Loc) (ls : Array Slot), sx_lp3 (bdX5_from_99 F a1 a2 a3 k_124) n x27 z28 z29 = some (r0, w_m_now, w_m_heard, w_m_aside) → lv_has ls 7 [(0, .ref m_h), (1, .int a1), (2, .int a2), (3, .int a3), (4, .int x12), (5, .int x13), (6, .int x27)] → va_P D vwCl [(m_heard_a, .inl (cI, 8, .inl z29)), (m_h, .inr (5, [.ref m_now_a, .ref m_tape_a, .int m_typed, .int m_place, .int m_isFault, .ref m_read_a, .ref m_heard_a, .ref m_undone_a, .int m_undos, .ref m_aside_a, .ref m_kept_a, .int m_keptUndos, .int m_isKept, .ref m_lanes_a, .ref m_sizes_a, .ref m_items_a, .ref m_moved_a])), (m_now_a, .inl (cI, 65, .inl z28)), (m_aside_a, .inl (cI, 65, .inl w10))] H → va_D A [(m_heard_a, .inl (cI, 8, .inl z29)), (m_h, .inr (5, [.ref m_now_a, .ref m_tape_a, .int m_typed, .int m_place, .int m_isFault, .ref m_read_a, .ref m_heard_a, .ref m_undone_a, .int m_undos, .ref m_aside_a, .ref m_kept_a, .int m_keptUndos, .int m_isKept, .ref m_lanes_a, .ref m_sizes_a, .ref m_items_a, .ref m_moved_a])), (m_now_a, .inl (cI, 65, .inl z28)), (m_aside_a, .inl (cI, 65, .inl w10))] → va_S A H0 H locs → W p l e R s m args below meth c H locs cells slots Q (F0 m 99 ls ([])) := by
                  intro n
                  induction n with
                  | zero => intro x27 z28 z29 H locs ls hM; exact (sx_lp3_0 hM).elim
                  | succ n ih =>
                    intro x27 z28 z29 H locs ls hM hl hP hD hS
                    have hM : bdX5_from_99 F a1 a2 a3 k_124 (sx_lp3 (bdX5_from_99 F a1 a2 a3 k_124) n) x27 z28 z29 = some (r0, w_m_now, w_m_heard, w_m_aside) := hM
                    generalize sx_lp3 (bdX5_from_99 F a1 a2 a3 k_124) n = r_99 at hM ih
                    unfold bdX5_from_99 at hM
                    refine lv_iload hx hb dX5_from_99 (lv_at hl 6 rfl) ?_
                    refine lv_iload_n hx hb dX5_from_101 rfl (lv_at hl 2 rfl) ?_
                    refine lv_icmp_gt (tgt := 124) hx hb dX5_from_102 (by decide) (fun c30 => ?_) (fun c30 => ?_)
                    · replace hM := sx_ift c30 hM
                      exact hk_124 x27 z28 z29 _ _ _ hM (lv_sub hl [0, 1, 2, 3, 4, 5, 6] rfl) (hP.sub [0, 1, 2, 3] rfl) (hD.sub [0, 1, 2, 3] (by decide) rfl) hS
                    · replace hM := sx_iff c30 hM
                      refine lv_aload_n hx hb dX5_from_105 rfl (lv_at hl 0 rfl) ?_
                      refine lv_iload_n hx hb dX5_from_106 rfl (lv_at hl 1 rfl) ?_
                      obtain ⟨r31, hc32, hM⟩ := sx_c1_s hM
                      refine sx_iV (As := [.int a1]) (rest := []) (wc := [(m_h, .inr (5, [.ref m_now_a, .ref m_tape_a, .int m_typed, .int m_place, .int m_isFault, .ref m_read_a, .ref m_heard_a, .ref m_undone_a, .int m_undos, .ref m_aside_a, .ref m_kept_a, .int m_keptUndos, .int m_isKept, .ref m_lanes_a, .ref m_sizes_a, .ref m_items_a, .ref m_moved_a])), (m_now_a, .inl (cI, 65, .inl z28))]) (wr := [(m_heard_a, .inl (cI, 8, .inl z29)), (m_aside_a, .inl (cI, 65, .inl w10))]) (w1 := [(m_h, .inr (5, [.ref m_now_a, .ref m_tape_a, .int m_typed, .int m_place, .int m_isFault, .ref m_read_a, .ref m_heard_a, .ref m_undone_a, .int m_undos, .ref m_aside_a, .ref m_kept_a, .int m_keptUndos, .int m_isKept, .ref m_lanes_a, .ref m_sizes_a, .ref m_items_a, .ref m_moved_a])), (m_now_a, .inl (cI, 65, .inl z28))]) ⟨hx, hb, hml, hown, hts⟩ (mtX5_isOut l D cI cJ cS H.size m_h m_now_a m_tape_a m_read_a m_heard_a m_undone_a m_aside_a m_kept_a m_lanes_a m_sizes_a m_items_a m_moved_a z28 m_typed m_place m_isFault m_undos m_keptUndos m_isKept a1 F r31 hc32) (cwV 1 hts gX5_from_X5_isOut rfl rfl rfl (by decide +kernel) ⟨Nat.le_trans (by decide) hRf, Nat.le_trans (by decide) hRl⟩) hK hN hP hD hS hA [1, 2] [0, 3] rfl (by decide) rfl (by decide) (by decide) rfl rfl rfl rfl hl.1 rfl (Nat.le_of_ble_eq_true rfl) dX5_from_107 hRc (fun H locs hP hD hS => ?_)
                      have hP : va_P D vwCl [(m_heard_a, .inl (cI, 8, .inl z29)), (m_aside_a, .inl (cI, 65, .inl w10)), (m_h, .inr (5, [.ref m_now_a, .ref m_tape_a, .int m_typed, .int m_place, .int m_isFault, .ref m_read_a, .ref m_heard_a, .ref m_undone_a, .int m_undos, .ref m_aside_a, .ref m_kept_a, .int m_keptUndos, .int m_isKept, .ref m_lanes_a, .ref m_sizes_a, .ref m_items_a, .ref m_moved_a])), (m_now_a, .inl (cI, 65, .inl z28))] H := hP
                      have hD : va_D A [(m_heard_a, .inl (cI, 8, .inl z29)), (m_aside_a, .inl (cI, 65, .inl w10)), (m_h, .inr (5, [.ref m_now_a, .ref m_tape_a, .int m_typed, .int m_place, .int m_isFault, .ref m_read_a, .ref m_heard_a, .ref m_undone_a, .int m_undos, .ref m_aside_a, .ref m_kept_a, .int m_keptUndos, .int m_isKept, .ref m_lanes_a, .ref m_sizes_a, .ref m_items_a, .ref m_moved_a])), (m_now_a, .inl (cI, 65, .inl z28))] := hD
                      refine lv_if_ne (tgt := 124) hx hb dX5_from_110 (by decide) (fun c33 => ?_) (fun c33 => ?_)
                      · replace hM := sx_iff c33 hM
                        exact hk_124 x27 z28 z29 _ _ _ hM (lv_sub hl [0, 1, 2, 3, 4, 5, 6] rfl) (hP.sub [0, 2, 3, 1] rfl) (hD.sub [0, 2, 3, 1] (by decide) rfl) hS
                      · replace hM := sx_ift c33 hM
                        refine lv_aload_n hx hb dX5_from_113 rfl (lv_at hl 0 rfl) ?_
                        refine lv_iload_n hx hb dX5_from_114 rfl (lv_at hl 3 rfl) ?_
                        obtain ⟨w34, w35, hc36, hM⟩ := sx_c2_s hM
                        refine sx_vV (As := [.int a3]) (rest := []) (wc := [(m_h, .inr (5, [.ref m_now_a, .ref m_tape_a, .int m_typed, .int m_place, .int m_isFault, .ref m_read_a, .ref m_heard_a, .ref m_undone_a, .int m_undos, .ref m_aside_a, .ref m_kept_a, .int m_keptUndos, .int m_isKept, .ref m_lanes_a, .ref m_sizes_a, .ref m_items_a, .ref m_moved_a])), (m_now_a, .inl (cI, 65, .inl z28)), (m_heard_a, .inl (cI, 8, .inl z29))]) (wr := [(m_aside_a, .inl (cI, 65, .inl w10))]) (w1 := [(m_h, .inr (5, [.ref m_now_a, .ref m_tape_a, .int m_typed, .int m_place, .int m_isFault, .ref m_read_a, .ref m_heard_a, .ref m_undone_a, .int m_undos, .ref m_aside_a, .ref m_kept_a, .int m_keptUndos, .int m_isKept, .ref m_lanes_a, .ref m_sizes_a, .ref m_items_a, .ref m_moved_a])), (m_now_a, .inl (cI, 65, .inl w34)), (m_heard_a, .inl (cI, 8, .inl w35))]) ⟨hx, hb, hml, hown, hts⟩ (mtX5_goesBy l D cI cJ cS H.size m_h m_now_a m_tape_a m_read_a m_heard_a m_undone_a m_aside_a m_kept_a m_lanes_a m_sizes_a m_items_a m_moved_a z28 m_typed m_place m_isFault z29 m_undos m_keptUndos m_isKept a3 F w34 w35 hc36) (cwV 1 hts gX5_from_X5_goesBy rfl rfl rfl (by decide +kernel) ⟨Nat.le_trans (by decide) hRf, Nat.le_trans (by decide) hRl⟩) hK hN hP hD hS hA [2, 3, 0] [1] rfl (by decide) rfl (by decide) (by decide) rfl rfl rfl rfl hl.1 rfl (Nat.le_of_ble_eq_true rfl) dX5_from_115 hRc (fun H locs hP hD hS => ?_)
                        have hP : va_P D vwCl [(m_aside_a, .inl (cI, 65, .inl w10)), (m_h, .inr (5, [.ref m_now_a, .ref m_tape_a, .int m_typed, .int m_place, .int m_isFault, .ref m_read_a, .ref m_heard_a, .ref m_undone_a, .int m_undos, .ref m_aside_a, .ref m_kept_a, .int m_keptUndos, .int m_isKept, .ref m_lanes_a, .ref m_sizes_a, .ref m_items_a, .ref m_moved_a])), (m_now_a, .inl (cI, 65, .inl w34)), (m_heard_a, .inl (cI, 8, .inl w35))] H := hP
                        have hD : va_D A [(m_aside_a, .inl (cI, 65, .inl w10)), (m_h, .inr (5, [.ref m_now_a, .ref m_tape_a, .int m_typed, .int m_place, .int m_isFault, .ref m_read_a, .ref m_heard_a, .ref m_undone_a, .int m_undos, .ref m_aside_a, .ref m_kept_a, .int m_keptUndos, .int m_isKept, .ref m_lanes_a, .ref m_sizes_a, .ref m_items_a, .ref m_moved_a])), (m_now_a, .inl (cI, 65, .inl w34)), (m_heard_a, .inl (cI, 8, .inl w35))] := hD
                        obtain ⟨v37, ev37, hM⟩ := sx_nm_s hM
                        refine lv_iinc (v := v37) (lv' := [(6, .int v37), (0, .ref m_h), (1, .int a1), (2, .int a2), (3, .int a3), (4, .int x12), (5, .int x13)]) hx hb dX5_from_118 hl (k := 6) rfl (by rw [ev37]; rfl) (by decide) rfl (fun ls hl => ?_)
                        refine lv_goto (tgt := 99) hx hb dX5_from_121 (by decide) ?_
                        exact ih v37 w34 w35 _ _ _ hM (lv_sub hl [1, 2, 3, 4, 5, 6, 0] rfl) (hP.sub [3, 1, 2, 0] rfl) (hD.sub [3, 1, 2, 0] (by decide) rfl) hS
                exact lp_99 F (0 : Int32) z17 z15 _ _ _ hM (lv_sub hl [1, 2, 3, 4, 5, 6, 0] rfl) (hP.sub [0, 1, 2, 3] rfl) (hD.sub [0, 1, 2, 3] (by decide) rfl) hS
              have lp_52 : ∀ (n : Nat) (x38 : Int32) (z39 : Nat → Int32) (H : Heap) (locs : List Loc) (ls : Array Slot), sx_lp2 (bdX5_from_52 F a1 x13 k_96) n x38 z39 = some (r0, w_m_now, w_m_heard, w_m_aside) → lv_has ls 7 [(0, .ref m_h), (1, .int a1), (2, .int a2), (3, .int a3), (4, .int x12), (5, .int x13), (6, .int x38)] → va_P D vwCl [(m_heard_a, .inl (cI, 8, .inl z15)), (m_h, .inr (5, [.ref m_now_a, .ref m_tape_a, .int m_typed, .int m_place, .int m_isFault, .ref m_read_a, .ref m_heard_a, .ref m_undone_a, .int m_undos, .ref m_aside_a, .ref m_kept_a, .int m_keptUndos, .int m_isKept, .ref m_lanes_a, .ref m_sizes_a, .ref m_items_a, .ref m_moved_a])), (m_now_a, .inl (cI, 65, .inl z39)), (m_aside_a, .inl (cI, 65, .inl w10))] H → va_D A [(m_heard_a, .inl (cI, 8, .inl z15)), (m_h, .inr (5, [.ref m_now_a, .ref m_tape_a, .int m_typed, .int m_place, .int m_isFault, .ref m_read_a, .ref m_heard_a, .ref m_undone_a, .int m_undos, .ref m_aside_a, .ref m_kept_a, .int m_keptUndos, .int m_isKept, .ref m_lanes_a, .ref m_sizes_a, .ref m_items_a, .ref m_moved_a])), (m_now_a, .inl (cI, 65, .inl z39)), (m_aside_a, .inl (cI, 65, .inl w10))] → va_S A H0 H locs → W p l e R s m args below meth c H locs cells slots Q (F0 m 52 ls ([])) := by
                intro n
                induction n with
                | zero => intro x38 z39 H locs ls hM; exact (sx_lp2_0 hM).elim
                | succ n ih =>
                  intro x38 z39 H locs ls hM hl hP hD hS
                  have hM : bdX5_from_52 F a1 x13 k_96 (sx_lp2 (bdX5_from_52 F a1 x13 k_96) n) x38 z39 = some (r0, w_m_now, w_m_heard, w_m_aside) := hM
                  generalize sx_lp2 (bdX5_from_52 F a1 x13 k_96) n = r_52 at hM ih
                  unfold bdX5_from_52 at hM
                  refine lv_iload hx hb dX5_from_52 (lv_at hl 6 rfl) ?_
                  refine lv_aload_n hx hb dX5_from_54 rfl (lv_at hl 0 rfl) ?_
                  refine va_get (D := D) (ci := 5) (v := .ref m_now_a) (C := RX5) (T := TX5) (N := 17) hx hb hts hin_X5 hown hK hP 1 rfl rfl 0 (by decide) hf_7 (fun _ h9 => h9) rfl dX5_from_55 ?_
                  refine lv_iconst (v := 0) hx hb dX5_from_58 (by decide) ?_
                  refine va_iald hx hb hK hP 2 0 rfl rfl (sx_ib_s (by decide)) dX5_from_59 ?_
                  refine lv_icmp_ge (tgt := 96) hx hb dX5_from_60 (by decide) (fun c40 => ?_) (fun c40 => ?_)
                  · replace hM := sx_ift c40 hM
                    exact hk_96 z39 _ _ _ hM (lv_sub hl [0, 1, 2, 3, 4, 5] rfl) (hP.sub [0, 1, 2, 3] rfl) (hD.sub [0, 1, 2, 3] (by decide) rfl) hS
                  · replace hM := sx_iff c40 hM
                    refine lv_aload_n hx hb dX5_from_63 rfl (lv_at hl 0 rfl) ?_
                    refine va_get (D := D) (ci := 5) (v := .ref m_now_a) (C := RX5) (T := TX5) (N := 17) hx hb hts hin_X5 hown hK hP 1 rfl rfl 0 (by decide) hf_7 (fun _ h9 => h9) rfl dX5_from_64 ?_
                    refine lv_bipush (v := 17) hx hb dX5_from_67 (by decide) ?_
                    refine lv_bipush (v := 8) hx hb dX5_from_69 (by decide) ?_
                    refine lv_iload hx hb dX5_from_71 (lv_at hl 6 rfl) ?_
                    refine lv_imul hx hb dX5_from_73 ?_
                    refine lv_iadd hx hb dX5_from_74 ?_
                    refine lv_iload_n hx hb dX5_from_75 rfl (lv_at hl 1 rfl) ?_
                    refine lv_iadd hx hb dX5_from_76 ?_
                    refine lv_iload hx hb dX5_from_77 (lv_at hl 6 rfl) ?_
                    refine lv_iload hx hb dX5_from_79 (lv_at hl 5 rfl) ?_
                    obtain ⟨k_89, ek_89, hM⟩ := sx_lt_s hM
                    have hk_89 : ∀ (y41 : Int32) (H : Heap) (locs : List Loc) (ls : Array Slot), k_89 y41 = some (r0, w_m_now, w_m_heard, w_m_aside) → lv_has ls 7 [(0, .ref m_h), (1, .int a1), (2, .int a2), (3, .int a3), (4, .int x12), (5, .int x13), (6, .int x38)] → va_P D vwCl [(m_heard_a, .inl (cI, 8, .inl z15)), (m_h, .inr (5, [.ref m_now_a, .ref m_tape_a, .int m_typed, .int m_place, .int m_isFault, .ref m_read_a, .ref m_heard_a, .ref m_undone_a, .int m_undos, .ref m_aside_a, .ref m_kept_a, .int m_keptUndos, .int m_isKept, .ref m_lanes_a, .ref m_sizes_a, .ref m_items_a, .ref m_moved_a])), (m_now_a, .inl (cI, 65, .inl z39)), (m_aside_a, .inl (cI, 65, .inl w10))] H → va_D A [(m_heard_a, .inl (cI, 8, .inl z15)), (m_h, .inr (5, [.ref m_now_a, .ref m_tape_a, .int m_typed, .int m_place, .int m_isFault, .ref m_read_a, .ref m_heard_a, .ref m_undone_a, .int m_undos, .ref m_aside_a, .ref m_kept_a, .int m_keptUndos, .int m_isKept, .ref m_lanes_a, .ref m_sizes_a, .ref m_items_a, .ref m_moved_a])), (m_now_a, .inl (cI, 65, .inl z39)), (m_aside_a, .inl (cI, 65, .inl w10))] → va_S A H0 H locs → W p l e R s m args below meth c H locs cells slots Q (F0 m 89 ls (.int y41 :: .int (((17 : Int32) + ((8 : Int32) * x38)) + a1) :: .ref m_now_a :: [])) := by
                      intro y41 H locs ls hM hl hP hD hS
                      rw [ek_89] at hM
                      obtain ⟨g42, hM⟩ := sx_gd_s hM
                      refine va_iast hx hb hK hP hD hS 2 0 rfl rfl (sx_ib_s g42) dX5_from_89 (fun H locs hP hD hS => ?_)
                      have hP : va_P D vwCl [(m_heard_a, .inl (cI, 8, .inl z15)), (m_h, .inr (5, [.ref m_now_a, .ref m_tape_a, .int m_typed, .int m_place, .int m_isFault, .ref m_read_a, .ref m_heard_a, .ref m_undone_a, .int m_undos, .ref m_aside_a, .ref m_kept_a, .int m_keptUndos, .int m_isKept, .ref m_lanes_a, .ref m_sizes_a, .ref m_items_a, .ref m_moved_a])), (m_now_a, .inl (cI, 65, .inl (upd z39 ((((17 : Int32) + ((8 : Int32) * x38)) + a1)).toNatClampNeg y41))), (m_aside_a, .inl (cI, 65, .inl w10))] H := hP
                      have hD : va_D A [(m_heard_a, .inl (cI, 8, .inl z15)), (m_h, .inr (5, [.ref m_now_a, .ref m_tape_a, .int m_typed, .int m_place, .int m_isFault, .ref m_read_a, .ref m_heard_a, .ref m_undone_a, .int m_undos, .ref m_aside_a, .ref m_kept_a, .int m_keptUndos, .int m_isKept, .ref m_lanes_a, .ref m_sizes_a, .ref m_items_a, .ref m_moved_a])), (m_now_a, .inl (cI, 65, .inl (upd z39 ((((17 : Int32) + ((8 : Int32) * x38)) + a1)).toNatClampNeg y41))), (m_aside_a, .inl (cI, 65, .inl w10))] := hD
                      obtain ⟨v43, ev43, hM⟩ := sx_nm_s hM
                      refine lv_iinc (v := v43) (lv' := [(6, .int v43), (0, .ref m_h), (1, .int a1), (2, .int a2), (3, .int a3), (4, .int x12), (5, .int x13)]) hx hb dX5_from_90 hl (k := 6) rfl (by rw [ev43]; rfl) (by decide) rfl (fun ls hl => ?_)
                      refine lv_goto (tgt := 52) hx hb dX5_from_93 (by decide) ?_
                      exact ih v43 (upd z39 ((((17 : Int32) + ((8 : Int32) * x38)) + a1)).toNatClampNeg y41) _ _ _ hM (lv_sub hl [1, 2, 3, 4, 5, 6, 0] rfl) (hP.sub [0, 1, 2, 3] rfl) (hD.sub [0, 1, 2, 3] (by decide) rfl) hS
                    refine lv_icmp_ne (tgt := 88) hx hb dX5_from_81 (by decide) (fun c44 => ?_) (fun c44 => ?_)
                    · replace hM := sx_iff c44 hM
                      refine lv_iconst (v := -1) hx hb dX5_from_88 (by decide) ?_
                      exact hk_89 (-1 : Int32) _ _ _ hM (lv_sub hl [0, 1, 2, 3, 4, 5, 6] rfl) (hP.sub [0, 1, 2, 3] rfl) (hD.sub [0, 1, 2, 3] (by decide) rfl) hS
                    · replace hM := sx_ift c44 hM
                      refine lv_iconst (v := 0) hx hb dX5_from_84 (by decide) ?_
                      refine lv_goto (tgt := 89) hx hb dX5_from_85 (by decide) ?_
                      exact hk_89 (0 : Int32) _ _ _ hM (lv_sub hl [0, 1, 2, 3, 4, 5, 6] rfl) (hP.sub [0, 1, 2, 3] rfl) (hD.sub [0, 1, 2, 3] (by decide) rfl) hS
              exact lp_52 F (0 : Int32) z14 _ _ _ hM (lv_sub hl [1, 2, 3, 4, 5, 6, 0] rfl) (hP.sub [0, 1, 2, 3] rfl) (hD.sub [0, 1, 2, 3] (by decide) rfl) hS
        exact lp_38 F (0 : Int32) (0 : Int32) m_now m_heard _ _ _ hM (lv_sub hl [2, 3, 4, 5, 1, 0] rfl) (hP.sub [0, 1, 2, 3] rfl) (hD.sub [0, 1, 2, 3] (by decide) rfl) hS
      · replace hM := sx_ift c9 hM
        refine lv_iconst (v := -1) hx hb dX5_from_26 (by decide) ?_
        obtain ⟨rfl, rfl, rfl, rfl⟩ := sx_o4 hM
        exact hret _ _ _ _ dX5_from_27 (hP.sub [0, 1, 2, 3] rfl) (hD.sub [0, 1, 2, 3] (by decide) rfl) hS
set_option maxHeartbeats 4000000 in
set_option maxRecDepth 100000 in
theorem mtX5_from (l : Launch) (D : va_G) (cI cJ cS : ClassId) (sz : Nat) (m_h m_now_a m_tape_a m_read_a m_heard_a m_undone_a m_aside_a m_kept_a m_lanes_a m_sizes_a m_items_a m_moved_a : Nat) (m_now : Nat → Int32) (m_typed : Int32) (m_place : Int32) (m_isFault : Int32) (m_heard : Nat → Int32) (m_undos : Int32) (m_aside : Nat → Int32) (m_keptUndos : Int32) (m_isKept : Int32) (a1 : Int32) (a2 : Int32) (a3 : Int32) (F : Nat) (r0 : Int32) (w_m_now : Nat → Int32) (w_m_heard : Nat → Int32) (w_m_aside : Nat → Int32) (hM : fnX5_from F m_now m_heard m_aside a1 a2 a3 = some (r0, w_m_now, w_m_heard, w_m_aside)) : sx_MI l yX5_from wsX5_from ({ frames := 4, cells := 0, slots := 0, locals := 88 }) D (sx_T cI cJ cS) sz [.ref m_h, .int a1, .int a2, .int a3] [(m_h, .inr (5, [.ref m_now_a, .ref m_tape_a, .int m_typed, .int m_place, .int m_isFault, .ref m_read_a, .ref m_heard_a, .ref m_undone_a, .int m_undos, .ref m_aside_a, .ref m_kept_a, .int m_keptUndos, .int m_isKept, .ref m_lanes_a, .ref m_sizes_a, .ref m_items_a, .ref m_moved_a])), (m_now_a, .inl (cI, 65, .inl m_now)), (m_heard_a, .inl (cI, 8, .inl m_heard)), (m_aside_a, .inl (cI, 65, .inl m_aside))] r0 [(m_h, .inr (5, [.ref m_now_a, .ref m_tape_a, .int m_typed, .int m_place, .int m_isFault, .ref m_read_a, .ref m_heard_a, .ref m_undone_a, .int m_undos, .ref m_aside_a, .ref m_kept_a, .int m_keptUndos, .int m_isKept, .ref m_lanes_a, .ref m_sizes_a, .ref m_items_a, .ref m_moved_a])), (m_now_a, .inl (cI, 65, .inl w_m_now)), (m_heard_a, .inl (cI, 8, .inl w_m_heard)), (m_aside_a, .inl (cI, 65, .inl w_m_aside))] := by
  refine Met.ofW (cc := cX5_from) (maxL := 7) (ret := (some .int)) (by decide) rfl ?_
  intro p e s m args below meth c s₁ B hml hv
  obtain ⟨rfl, hsz, hN, hP, hK, hD0⟩ := hv
  subst hsz
  have hl := lv_entry ([.ref m_h, .int a1, .int a2, .int a3]) (n := 7) (Nat.le_of_ble_eq_true rfl)
  rw [lg_entry_eq]
  generalize (lg_sl ([.ref m_h, .int a1, .int a2, .int a3]) ++ List.replicate (7 - (lg_sl ([.ref m_h, .int a1, .int a2, .int a3])).length) Slot.unset).toArray = ls at hl ⊢
  exact kwX5_from B.exec B.bytes hml (findClass_of_methodNamed B.named) (atoms_spec (ws := wsX5_from) B.pre) hN hK (fun q h => Or.inr h) (by decide) (by decide) ⟨Nat.zero_le _, Nat.zero_le _⟩ m_h m_now_a m_tape_a m_read_a m_heard_a m_undone_a m_aside_a m_kept_a m_lanes_a m_sizes_a m_items_a m_moved_a m_now m_typed m_place m_isFault m_heard m_undos m_aside m_keptUndos m_isKept a1 a2 a3 F r0 w_m_now w_m_heard w_m_aside hM _ _ _ hl hP hD0.self va_S.rf (fun H1 locs1 ls1 pc1 hd hP hD hS => W.iret (v := r0) B.exec B.bytes B.returns (fun t ht hW => ⟨⟨r0, (), rfl, rfl, by rw [ht]; exact hP, hD⟩, hS.F ht⟩) hS.2.2 hd)
