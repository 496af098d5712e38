/-! the start, and all rows together -/
theorem rr_start : RR CC sg0 tu0 := by
  refine ⟨0, 0, fun _ => 0, fun _ => 0, fun _ => 0, ⟨by omega, rfl, rfl, fun d hd => absurd hd (by omega), fun d hd => absurd hd (by omega)⟩, ⟨vld0 0 (by omega), rfl, fun d hd => absurd hd (by omega), rfl⟩, ⟨rfl, rfl, rfl⟩, ⟨0, by omega, rfl, rfl, fun j hj => absurd hj (by omega)⟩, fun k hk => ?_, Or.inl rfl⟩
  left
  rcases (show k = 0 ∨ k = 1 ∨ k = 2 ∨ k = 3 by omega) with rfl | rfl | rfl | rfl <;> exact ⟨rfl, rfl⟩
theorem hh1 : 100 ≤ NN := Nat.le_of_ble_eq_true rfl
theorem hh2 : 17000 ≤ NN := Nat.le_of_ble_eq_true rfl
theorem sims_all : Sims NN (RR CC) := ⟨s_dolls hh1, s_ofDoll hh1, s_girth, s_room, s_fits, s_act hh1, s_anew hh1, s_can hh1, s_day hh1, s_fewest hh2, s_stands hh2, s_tidy, s_chain, s_reading, s_back, s_girths hh1, s_rooms hh1, s_kinds hh1, s_odds, s_sheet hh1, s_lose, s_put, s_cell, s_copy hh1, s_tell, s_shake, s_as, s_trace, s_fault, s_many hh1⟩
