theorem cnt1_0 : cnt1 (fun _ => 0) 16 = 0 := by decide
set_option maxRecDepth 100000 in
set_option maxHeartbeats 4000000 in
theorem TR_0 : TR 0 (fun _ => 0) ini (fun _ => 0) (fun _ => 0) (-1) (-1) 0 (fun _ => 0) ini (fun _ => 0) (fun _ => 0) (-1) (-1) 0 (fun _ => 0) ini (fun _ => 0) (fun _ => 0) 0 0 0 (fun _ => 0) (fun _ => 0) (upd (fun _ => 0) 0 (-1)) 0 (fun _ => 0) (fun _ => 0) (fun _ => 0) (fun _ => 0) (fun _ => 0) 3 (-1) (-1) 0 0 (fun _ => 0) (-1) 0 0 (fun _ => 0) ini (fun _ => 0) (fun _ => 0) ini (fun _ => 0) ini (fun _ => 0) (fun _ => 0) (fun _ => 0) (fun _ => 0) (-1) (-1) (-1) (-1) (-1) 0 (fun _ => 0) (fun _ => 0) (upd (fun _ => 0) 0 (-1)) 0 1 0 0 0 0 0 0 0 (fun _ => 0) (fun _ => 0) (fun _ => 0) (fun _ => 0) (fun _ => 0) 0 0 := by
  have hD : RD (fun _ => 0) ini (fun _ => 0) (fun _ => 0) (fun _ => 0) ini (fun _ => 0) (fun _ => 0) := fun i hi => ⟨rfl, rfl, rfl, rfl⟩
  have h01 : ¬ (0 : Int32) = 1 := by decide
  have hI : ID (fun _ => 0) ini (fun _ => 0) := fun i hi => ⟨fun h => absurd h h01, fun _ => rfl⟩
  have hj0 : ∀ b, jb 0 b = false := fun b => BitVec.getLsbD_zero
  have hM : RM 0 (fun _ => 0) := ⟨fun i hi => by rw [hj0]; rfl, rfl⟩
  refine ⟨0, 0, 0, 1, 0, 0, fun _ => 0, ⟨rfl, rfl, rfl, rfl, ⟨hD, hI, by omega, by omega⟩, by omega⟩, ⟨rfl, rfl, rfl, rfl, rfl, rfl, ⟨by omega, by omega, by omega, fun i hi => ⟨Nat.zero_le 240, rfl, rfl, fun j hj => absurd hj (Nat.not_lt_zero j), fun j hj => absurd hj (Nat.not_lt_zero j)⟩⟩, by omega⟩, ⟨rfl, rfl, by omega, fun j hj => by omega⟩, ⟨rfl, rfl, by rw [cnt1_0]; rfl, fun i hi => ⟨?_, ?_, fun h => absurd h h01⟩⟩, fun _ => ⟨0, 0, rfl, rfl, rfl, rfl, ⟨hD, hI, hM, fun b hb => ?_, by omega, by omega⟩, fun i hi => ?_, by omega⟩⟩
  · rw [if_neg h01]; exact ini_i hi
  · rw [if_neg h01]
  · rw [hj0] at hb; cases hb
  · obtain rfl : i = 0 := by omega
    rfl
set_option maxRecDepth 100000 in
set_option maxHeartbeats 4000000 in
theorem law_pure {L : Nat} {xs : Nat → Int32} (hL : L ≤ 3584) : fL_law xs L = some 1 := by
  rw [fL_law, init5_ok, cal39_e, init6_ok, cal36_e, jp_e]
  exact lo76_c (law_loop hL (fun _ _ _ _ _ _ _ _ _ _ _ _ _ _ _ _ _ _ _ _ _ _ _ _ _ _ _ _ _ _ _ _ _ _ _ _ _ _ _ _ _ _ _ _ _ _ _ _ _ _ _ _ _ _ _ _ _ _ _ _ _ _ _ _ _ _ _ _ _ _ _ _ _ _ _ => rfl) (L / 7) 0 (by omega) 1000 (by omega) _ _ _ _ _ _ _ _ _ _ _ _ _ _ _ _ _ _ _ _ _ _ _ _ _ _ _ _ _ _ _ _ _ _ _ _ _ _ _ _ _ _ _ _ _ _ _ _ _ _ _ _ _ _ _ _ _ _ _ _ _ _ _ _ _ _ _ _ _ _ _ _ _ _ _ TR_0) rfl
