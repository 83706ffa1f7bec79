/-! The state behind the constructors. -/
theorem z_h0 {c j : Nat} (q : c ≠ 54) : o_Model_clear zH0 54 c j = zH0 c j := by rw [q_clr, if_neg (by omega)]
theorem z_start : zREL 0 (o_Model_clear zH0 54) (o_Model_clear zH0 54) (zg0 0) (zg0 1) := by
  have e24 : o_Model_clear zH0 54 54 24 = 0 := by
    rw [q_clr, if_pos (by omega)]
    decide
  refine ⟨0, ⟨⟨z_h0 (by omega), z_h0 (by omega), by omega, fun v hv => absurd hv (Nat.not_lt_zero v)⟩, ⟨(z_h0 (by omega)).trans e24.symm, 0, by omega, e24⟩, fun v hv => absurd hv (Nat.not_lt_zero v), fun v hv => absurd hv (Nat.not_lt_zero v), fun v hv => absurd hv (Nat.not_lt_zero v), y_on_all (by omega), fun v hv => absurd hv (Nat.not_lt_zero v), fun v hv => absurd hv (Nat.not_lt_zero v)⟩, ⟨0, by omega, z_h0 (by omega), z_h0 (by omega), fun i hi => absurd hi (Nat.not_lt_zero i)⟩, zfit_of (m := 0) (z_h0 (by omega)) (by omega) (by decide), ⟨0, by omega, z_h0 (by omega), z_h0 (by omega), fun i hi => absurd hi (Nat.not_lt_zero i)⟩, ⟨0, 0, by omega, by omega, z_h0 (by omega), z_h0 (by omega), z_h0 (by omega), z_h0 (by omega), z_h0 (by omega), fun i hi => absurd hi (Nat.not_lt_zero i)⟩, ⟨z_h0 (by omega), fun i _ => ?_⟩, rfl⟩
  have e1 : o_Model_clear zH0 54 44 1 = 0 := z_h0 (by omega)
  have e2 : o_Model_clear zH0 54 59 i = 0 := z_h0 (by omega)
  rw [e1, e2, b_0]
  exact ⟨rfl, fun q => absurd q (by decide)⟩
