/-! ===== rules: fields and rows ===== -/
theorem cases13 {P : Nat → Prop} (h0 : P 0) (h1 : P 1) (h2 : P 2) (h3 : P 3) (h4 : P 4) (h5 : P 5) (h6 : P 6) (h7 : P 7) (h8 : P 8) (h9 : P 9) (h10 : P 10) (h11 : P 11) (h12 : P 12) (ci : Nat) (h : ci < 13) : P ci := by
  match ci, h with
  | 0, _ => exact h0
  | 1, _ => exact h1
  | 2, _ => exact h2
  | 3, _ => exact h3
  | 4, _ => exact h4
  | 5, _ => exact h5
  | 6, _ => exact h6
  | 7, _ => exact h7
  | 8, _ => exact h8
  | 9, _ => exact h9
  | 10, _ => exact h10
  | 11, _ => exact h11
  | 12, _ => exact h12
  | k + 13, h => exact absurd h (by omega)
theorem cl_at (ci : Nat) (h : ci < 13) : classes[ci]? = some (RF ci, TF ci, nf ci) := cases13 (P := fun ci => classes[ci]? = some (RF ci, TF ci, nf ci)) rfl rfl rfl rfl rfl rfl rfl rfl rfl rfl rfl rfl rfl ci h
theorem inG (ci : Nat) (h : ci < 13) : ∀ w ∈ u_ws (RF ci) (TF ci) (nf ci), w ∈ gd_tbl := cases13 (P := fun ci => ∀ w ∈ u_ws (RF ci) (TF ci) (nf ci), w ∈ gd_tbl) (by decide +kernel) (by decide +kernel) (by decide +kernel) (by decide +kernel) (by decide +kernel) (by decide +kernel) (by decide +kernel) (by decide +kernel) (by decide +kernel) (by decide +kernel) (by decide +kernel) (by decide +kernel) (by decide +kernel) ci h
theorem tyG (ci : Nat) (h : ci < 13) : ∀ k, k < nf ci → parseFieldDescriptor (TF ci k).2.2.1 = some (tyF ci k) := cases13 (P := fun ci => ∀ k, k < nf ci → parseFieldDescriptor (TF ci k).2.2.1 = some (tyF ci k)) tyX0_ok tyX1_ok tyX2_ok tyX3_ok tyX4_ok tyX5_ok tyX6_ok tyX7_ok tyX8_ok tyX9_ok tyX10_ok tyX11_ok tyX12_ok ci h
theorem nmG (ci : Nat) (h : ci < 13) : ∀ a, a < nf ci → ∀ b, b < nf ci → a ≠ b → (TF ci a).2.1 ≠ (TF ci b).2.1 := cases13 (P := fun ci => ∀ a, a < nf ci → ∀ b, b < nf ci → a ≠ b → (TF ci a).2.1 ≠ (TF ci b).2.1) nmX0 nmX1 nmX2 nmX3 nmX4 nmX5 nmX6 nmX7 nmX8 nmX9 nmX10 nmX11 nmX12 ci h
