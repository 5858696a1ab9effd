theorem kx_all {l : List Cond} (h : (l.all fun w => decide (w ∈ kx_tb) && kx_okw w) = true) : ∀ w ∈ l, w ∈ kx_ws := by
  intro w hw
  have h1 := List.all_eq_true.mp h w hw
  rw [Bool.and_eq_true, decide_eq_true_eq] at h1
  exact List.mem_filter.mpr h1
/-! ===== the classes, their fields ===== -/
theorem kI_V : ∀ w ∈ u_ws kR_V kF_V 10, w ∈ kx_ws := kx_all (by decide +kernel)
theorem kY_V : ∀ k, k < 10 → parseFieldDescriptor (kF_V k).2.2.1 = some (kT_V k) := by decide +kernel
theorem kN_V : ∀ a, a < 10 → ∀ b, b < 10 → a ≠ b → (kF_V a).2.1 ≠ (kF_V b).2.1 := by decide +kernel
theorem kI_T : ∀ w ∈ u_ws kR_T kF_T 3, w ∈ kx_ws := kx_all (by decide +kernel)
theorem kY_T : ∀ k, k < 3 → parseFieldDescriptor (kF_T k).2.2.1 = some (kT_T k) := by decide +kernel
theorem kN_T : ∀ a, a < 3 → ∀ b, b < 3 → a ≠ b → (kF_T a).2.1 ≠ (kF_T b).2.1 := by decide +kernel
theorem kI_P : ∀ w ∈ u_ws kR_P kF_P 4, w ∈ kx_ws := kx_all (by decide +kernel)
theorem kY_P : ∀ k, k < 4 → parseFieldDescriptor (kF_P k).2.2.1 = some (kT_P k) := by decide +kernel
theorem kN_P : ∀ a, a < 4 → ∀ b, b < 4 → a ≠ b → (kF_P a).2.1 ≠ (kF_P b).2.1 := by decide +kernel
theorem kI_S : ∀ w ∈ u_ws kR_S kF_S 3, w ∈ kx_ws := kx_all (by decide +kernel)
theorem kY_S : ∀ k, k < 3 → parseFieldDescriptor (kF_S k).2.2.1 = some (kT_S k) := by decide +kernel
theorem kN_S : ∀ a, a < 3 → ∀ b, b < 3 → a ≠ b → (kF_S a).2.1 ≠ (kF_S b).2.1 := by decide +kernel
theorem kI_B : ∀ w ∈ u_ws kR_B kF_B 4, w ∈ kx_ws := kx_all (by decide +kernel)
theorem kY_B : ∀ k, k < 4 → parseFieldDescriptor (kF_B k).2.2.1 = some (kT_B k) := by decide +kernel
theorem kN_B : ∀ a, a < 4 → ∀ b, b < 4 → a ≠ b → (kF_B a).2.1 ≠ (kF_B b).2.1 := by decide +kernel
theorem kI_R : ∀ w ∈ u_ws kR_R kF_R 1, w ∈ kx_ws := kx_all (by decide +kernel)
theorem kY_R : ∀ k, k < 1 → parseFieldDescriptor (kF_R k).2.2.1 = some (kT_R k) := by decide +kernel
theorem kN_R : ∀ a, a < 1 → ∀ b, b < 1 → a ≠ b → (kF_R a).2.1 ≠ (kF_R b).2.1 := by decide +kernel
theorem kI_Q : ∀ w ∈ u_ws kR_Q kF_Q 5, w ∈ kx_ws := kx_all (by decide +kernel)
theorem kY_Q : ∀ k, k < 5 → parseFieldDescriptor (kF_Q k).2.2.1 = some (kT_Q k) := by decide +kernel
theorem kN_Q : ∀ a, a < 5 → ∀ b, b < 5 → a ≠ b → (kF_Q a).2.1 ≠ (kF_Q b).2.1 := by decide +kernel
theorem kI_N : ∀ w ∈ u_ws kR_N kF_N 4, w ∈ kx_ws := kx_all (by decide +kernel)
theorem kY_N : ∀ k, k < 4 → parseFieldDescriptor (kF_N k).2.2.1 = some (kT_N k) := by decide +kernel
theorem kN_N : ∀ a, a < 4 → ∀ b, b < 4 → a ≠ b → (kF_N a).2.1 ≠ (kF_N b).2.1 := by decide +kernel
theorem kI_M : ∀ w ∈ u_ws kR_M kF_M 29, w ∈ kx_ws := kx_all (by decide +kernel)
theorem kY_M : ∀ k, k < 29 → parseFieldDescriptor (kF_M k).2.2.1 = some (kT_M k) := by decide +kernel
theorem kN_M : ∀ a, a < 29 → ∀ b, b < 29 → a ≠ b → (kF_M a).2.1 ≠ (kF_M b).2.1 := by decide +kernel
