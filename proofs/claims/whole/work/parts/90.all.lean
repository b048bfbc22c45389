theorem pays_0 : mpa ms0 = gpa gs0 := by
  funext k
  show upd (upd (fun _ => 0) (0 : Int32).toNatClampNeg 1) (3 : Int32).toNatClampNeg 1 k = upd (upd (upd (upd (fun _ => 0) (0 : Int32).toNatClampNeg 1) (1 : Int32).toNatClampNeg 0) (2 : Int32).toNatClampNeg 0) (3 : Int32).toNatClampNeg 1 k
  rw [show (0 : Int32).toNatClampNeg = 0 by decide, show (1 : Int32).toNatClampNeg = 1 by decide, show (2 : Int32).toNatClampNeg = 2 by decide, show (3 : Int32).toNatClampNeg = 3 by decide]
  unfold upd
  repeat' split
  all_goals first | rfl | omega
theorem rel_0 : Rel gs0 ms0 := by
  refine ⟨4, ⟨⟨rfl, by omega, by omega, fun k hk => ⟨0, by omega, rfl⟩, fun p hp => ?_⟩, fun a b _ _ => rfl, fun a b _ _ _ => rfl, fun k hk => ?_, ⟨0, by decide, rfl⟩, ⟨0, by decide, rfl⟩⟩, ⟨rfl, rfl, rfl, rfl, rfl, pays_0⟩, fun r hr => Or.inl rfl, Or.inl rfl⟩
  · exact (isum_0 (n := 4) (fun _ _ => rfl)).symm
  · rcases (show k = 0 ∨ k = 1 ∨ k = 2 ∨ k = 3 by omega) with rfl | rfl | rfl | rfl <;> decide
theorem all_eq : AllEq Rel := ⟨q_players, q_line, q_weight, q_pay, q_bar, q_hold, q_state, q_wage, q_sum, q_step, q_after, q_goes, q_end, q_basin, q_lone, q_before, q_rise, q_highest, q_rests, q_restMany, q_tip, q_share, q_hangs, q_told⟩
