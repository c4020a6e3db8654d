-- THE TWO NEW OBJECTS
theorem li_now : P_now (fun _ => 0) (fun _ => 0) (fun _ => 0) (fun _ => 0) 0 5 7 0 1 (fun _ => 0) (fun _ => 0) (fun _ => 0) (fun _ => 0) 0 0 M0v.1 (fun _ => 0) 0 := by
  refine ⟨(0, fun _ => 0, fun _ => 0, fun _ _ => 0, 5, 7, 0, 1), 0, fun _ => (fun _ _ => 0, 0, 0), ?_, ?_, ?_, ?_, ?_, ?_, nm_0⟩
  · exact ⟨Nat.zero_le _, fun p hp => absurd hp (Nat.not_lt_zero p), ⟨fun i hi => absurd hi (Nat.not_lt_zero i), fun i j hi => absurd hi (Nat.not_lt_zero i)⟩, fun p hp => absurd hp (Nat.not_lt_zero p), ⟨by decide, by decide⟩, ⟨by decide, by decide⟩, by decide, by decide⟩
  · exact ⟨by decide, fun i hi => absurd hi (Nat.not_lt_zero i)⟩
  · exact ⟨fun i hi => absurd hi (Nat.not_lt_zero i), fun i hi => absurd hi (Nat.not_lt_zero i), fun i hi => absurd hi (Nat.not_lt_zero i), fun i hi => absurd hi (Nat.not_lt_zero i), nm_0, nm_5, nm_7, nm_0, nm_1⟩
  · exact ⟨0, by decide, nm_0, nm_0, fun i hi => absurd hi (Nat.not_lt_zero i)⟩
  · refine ⟨⟨?_, ?_, ?_, ?_, ?_, fun i hi => absurd hi (Nat.not_lt_zero i), fun i hi => absurd hi (Nat.not_lt_zero i)⟩, fun q hq => absurd hq (Nat.not_lt_zero q)⟩
    · show M0v.1 0 = nI 0; decide +kernel
    · show M0v.1 1 = nI 0; decide +kernel
    · show M0v.1 2 = nI 5; decide +kernel
    · show M0v.1 3 = nI 7; decide +kernel
    · show M0v.1 4 = nI 1; decide +kernel
  · exact fun i hi => absurd hi (Nat.not_lt_zero i)
theorem li_lanes : ∀ s, s < 4 → (-1 : Int32) = M0v.2.2.2.2.2.2.2.2.2.2.2.2.2.1 s := by decide +kernel
theorem li_start : LInv X0v M0v :=
  ⟨li_now, Or.inl ⟨rfl, rfl⟩, ⟨0, by decide, nm_0, nm_0, fun i hi => absurd hi (Nat.not_lt_zero i)⟩, fun s hs => ⟨li_lanes s hs, Or.inl rfl⟩⟩
