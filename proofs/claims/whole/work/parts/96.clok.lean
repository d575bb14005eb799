theorem wlX1_0 : u_lay RX1 TX1 0 ∈ n_tb := n_a1 155 (by decide +kernel) (by decide +kernel)
theorem wlX1_1 : u_lay RX1 TX1 1 ∈ n_tb := n_a1 157 (by decide +kernel) (by decide +kernel)
theorem wlX1_2 : u_lay RX1 TX1 2 ∈ n_tb := n_a1 159 (by decide +kernel) (by decide +kernel)
theorem wlX1 : ∀ x ∈ u_ws RX1 TX1 3, x ∈ n_tb := by
  intro x hx
  obtain ⟨k, hk, rfl⟩ := List.mem_map.mp hx
  have hk := List.mem_range.mp hk
  match k, hk with
  | 0, _ => exact wlX1_0
  | 1, _ => exact wlX1_1
  | 2, _ => exact wlX1_2
  | j + 3, h => exact absurd h (by omega)
theorem nnX1 : ∀ a, a < 3 → ∀ b, b < 3 → a ≠ b → (TX1 a).2.1 ≠ (TX1 b).2.1 := by decide +kernel
theorem ttX1 : ∀ k, k < 3 → parseFieldDescriptor (TX1 k).2.2.1 = some (tyX1 k) := by decide +kernel
theorem wlX2_0 : u_lay RX2 TX2 0 ∈ n_tb := n_a2 73 (by decide +kernel) (by decide +kernel)
theorem wlX2_1 : u_lay RX2 TX2 1 ∈ n_tb := n_a2 75 (by decide +kernel) (by decide +kernel)
theorem wlX2_2 : u_lay RX2 TX2 2 ∈ n_tb := n_a2 77 (by decide +kernel) (by decide +kernel)
theorem wlX2_3 : u_lay RX2 TX2 3 ∈ n_tb := n_a2 79 (by decide +kernel) (by decide +kernel)
theorem wlX2_4 : u_lay RX2 TX2 4 ∈ n_tb := n_a2 81 (by decide +kernel) (by decide +kernel)
theorem wlX2_5 : u_lay RX2 TX2 5 ∈ n_tb := n_a2 83 (by decide +kernel) (by decide +kernel)
theorem wlX2_6 : u_lay RX2 TX2 6 ∈ n_tb := n_a2 85 (by decide +kernel) (by decide +kernel)
theorem wlX2_7 : u_lay RX2 TX2 7 ∈ n_tb := n_a2 87 (by decide +kernel) (by decide +kernel)
theorem wlX2_8 : u_lay RX2 TX2 8 ∈ n_tb := n_a2 89 (by decide +kernel) (by decide +kernel)
theorem wlX2_9 : u_lay RX2 TX2 9 ∈ n_tb := n_a2 91 (by decide +kernel) (by decide +kernel)
theorem wlX2_10 : u_lay RX2 TX2 10 ∈ n_tb := n_a2 93 (by decide +kernel) (by decide +kernel)
theorem wlX2 : ∀ x ∈ u_ws RX2 TX2 11, x ∈ n_tb := by
  intro x hx
  obtain ⟨k, hk, rfl⟩ := List.mem_map.mp hx
  have hk := List.mem_range.mp hk
  match k, hk with
  | 0, _ => exact wlX2_0
  | 1, _ => exact wlX2_1
  | 2, _ => exact wlX2_2
  | 3, _ => exact wlX2_3
  | 4, _ => exact wlX2_4
  | 5, _ => exact wlX2_5
  | 6, _ => exact wlX2_6
  | 7, _ => exact wlX2_7
  | 8, _ => exact wlX2_8
  | 9, _ => exact wlX2_9
  | 10, _ => exact wlX2_10
  | j + 11, h => exact absurd h (by omega)
theorem nnX2 : ∀ a, a < 11 → ∀ b, b < 11 → a ≠ b → (TX2 a).2.1 ≠ (TX2 b).2.1 := by decide +kernel
theorem ttX2 : ∀ k, k < 11 → parseFieldDescriptor (TX2 k).2.2.1 = some (tyX2 k) := by decide +kernel
theorem wlX3_0 : u_lay RX3 TX3 0 ∈ n_tb := n_a1 126 (by decide +kernel) (by decide +kernel)
theorem wlX3_1 : u_lay RX3 TX3 1 ∈ n_tb := n_a1 128 (by decide +kernel) (by decide +kernel)
theorem wlX3_2 : u_lay RX3 TX3 2 ∈ n_tb := n_a1 130 (by decide +kernel) (by decide +kernel)
theorem wlX3 : ∀ x ∈ u_ws RX3 TX3 3, x ∈ n_tb := by
  intro x hx
  obtain ⟨k, hk, rfl⟩ := List.mem_map.mp hx
  have hk := List.mem_range.mp hk
  match k, hk with
  | 0, _ => exact wlX3_0
  | 1, _ => exact wlX3_1
  | 2, _ => exact wlX3_2
  | j + 3, h => exact absurd h (by omega)
theorem nnX3 : ∀ a, a < 3 → ∀ b, b < 3 → a ≠ b → (TX3 a).2.1 ≠ (TX3 b).2.1 := by decide +kernel
theorem ttX3 : ∀ k, k < 3 → parseFieldDescriptor (TX3 k).2.2.1 = some (tyX3 k) := by decide +kernel
theorem wlX5_0 : u_lay RX5 TX5 0 ∈ n_tb := n_a2 25 (by decide +kernel) (by decide +kernel)
theorem wlX5_1 : u_lay RX5 TX5 1 ∈ n_tb := n_a2 27 (by decide +kernel) (by decide +kernel)
theorem wlX5_2 : u_lay RX5 TX5 2 ∈ n_tb := n_a2 29 (by decide +kernel) (by decide +kernel)
theorem wlX5_3 : u_lay RX5 TX5 3 ∈ n_tb := n_a2 31 (by decide +kernel) (by decide +kernel)
theorem wlX5 : ∀ x ∈ u_ws RX5 TX5 4, x ∈ n_tb := by
  intro x hx
  obtain ⟨k, hk, rfl⟩ := List.mem_map.mp hx
  have hk := List.mem_range.mp hk
  match k, hk with
  | 0, _ => exact wlX5_0
  | 1, _ => exact wlX5_1
  | 2, _ => exact wlX5_2
  | 3, _ => exact wlX5_3
  | j + 4, h => exact absurd h (by omega)
theorem nnX5 : ∀ a, a < 4 → ∀ b, b < 4 → a ≠ b → (TX5 a).2.1 ≠ (TX5 b).2.1 := by decide +kernel
theorem ttX5 : ∀ k, k < 4 → parseFieldDescriptor (TX5 k).2.2.1 = some (tyX5 k) := by decide +kernel
theorem wlX6_0 : u_lay RX6 TX6 0 ∈ n_tb := n_a1 77 (by decide +kernel) (by decide +kernel)
theorem wlX6_1 : u_lay RX6 TX6 1 ∈ n_tb := n_a1 79 (by decide +kernel) (by decide +kernel)
theorem wlX6_2 : u_lay RX6 TX6 2 ∈ n_tb := n_a1 81 (by decide +kernel) (by decide +kernel)
theorem wlX6_3 : u_lay RX6 TX6 3 ∈ n_tb := n_a1 83 (by decide +kernel) (by decide +kernel)
theorem wlX6_4 : u_lay RX6 TX6 4 ∈ n_tb := n_a1 85 (by decide +kernel) (by decide +kernel)
theorem wlX6_5 : u_lay RX6 TX6 5 ∈ n_tb := n_a1 87 (by decide +kernel) (by decide +kernel)
theorem wlX6_6 : u_lay RX6 TX6 6 ∈ n_tb := n_a1 89 (by decide +kernel) (by decide +kernel)
theorem wlX6_7 : u_lay RX6 TX6 7 ∈ n_tb := n_a1 91 (by decide +kernel) (by decide +kernel)
theorem wlX6_8 : u_lay RX6 TX6 8 ∈ n_tb := n_a1 93 (by decide +kernel) (by decide +kernel)
theorem wlX6_9 : u_lay RX6 TX6 9 ∈ n_tb := n_a1 95 (by decide +kernel) (by decide +kernel)
theorem wlX6_10 : u_lay RX6 TX6 10 ∈ n_tb := n_a1 97 (by decide +kernel) (by decide +kernel)
theorem wlX6 : ∀ x ∈ u_ws RX6 TX6 11, x ∈ n_tb := by
  intro x hx
  obtain ⟨k, hk, rfl⟩ := List.mem_map.mp hx
  have hk := List.mem_range.mp hk
  match k, hk with
  | 0, _ => exact wlX6_0
  | 1, _ => exact wlX6_1
  | 2, _ => exact wlX6_2
  | 3, _ => exact wlX6_3
  | 4, _ => exact wlX6_4
  | 5, _ => exact wlX6_5
  | 6, _ => exact wlX6_6
  | 7, _ => exact wlX6_7
  | 8, _ => exact wlX6_8
  | 9, _ => exact wlX6_9
  | 10, _ => exact wlX6_10
  | j + 11, h => exact absurd h (by omega)
theorem nnX6 : ∀ a, a < 11 → ∀ b, b < 11 → a ≠ b → (TX6 a).2.1 ≠ (TX6 b).2.1 := by decide +kernel
theorem ttX6 : ∀ k, k < 11 → parseFieldDescriptor (TX6 k).2.2.1 = some (tyX6 k) := by decide +kernel
theorem wlX7_0 : u_lay RX7 TX7 0 ∈ n_tb := n_a2 44 (by decide +kernel) (by decide +kernel)
theorem wlX7_1 : u_lay RX7 TX7 1 ∈ n_tb := n_a2 46 (by decide +kernel) (by decide +kernel)
theorem wlX7 : ∀ x ∈ u_ws RX7 TX7 2, x ∈ n_tb := by
  intro x hx
  obtain ⟨k, hk, rfl⟩ := List.mem_map.mp hx
  have hk := List.mem_range.mp hk
  match k, hk with
  | 0, _ => exact wlX7_0
  | 1, _ => exact wlX7_1
  | j + 2, h => exact absurd h (by omega)
theorem nnX7 : ∀ a, a < 2 → ∀ b, b < 2 → a ≠ b → (TX7 a).2.1 ≠ (TX7 b).2.1 := by decide +kernel
theorem ttX7 : ∀ k, k < 2 → parseFieldDescriptor (TX7 k).2.2.1 = some (tyX7 k) := by decide +kernel
theorem wlX8_0 : u_lay RX8 TX8 0 ∈ n_tb := n_a1 52 (by decide +kernel) (by decide +kernel)
theorem wlX8_1 : u_lay RX8 TX8 1 ∈ n_tb := n_a1 54 (by decide +kernel) (by decide +kernel)
theorem wlX8 : ∀ x ∈ u_ws RX8 TX8 2, x ∈ n_tb := by
  intro x hx
  obtain ⟨k, hk, rfl⟩ := List.mem_map.mp hx
  have hk := List.mem_range.mp hk
  match k, hk with
  | 0, _ => exact wlX8_0
  | 1, _ => exact wlX8_1
  | j + 2, h => exact absurd h (by omega)
theorem nnX8 : ∀ a, a < 2 → ∀ b, b < 2 → a ≠ b → (TX8 a).2.1 ≠ (TX8 b).2.1 := by decide +kernel
theorem ttX8 : ∀ k, k < 2 → parseFieldDescriptor (TX8 k).2.2.1 = some (tyX8 k) := by decide +kernel
theorem wlX9_0 : u_lay RX9 TX9 0 ∈ n_tb := n_a1 214 (by decide +kernel) (by decide +kernel)
theorem wlX9_1 : u_lay RX9 TX9 1 ∈ n_tb := n_a1 216 (by decide +kernel) (by decide +kernel)
theorem wlX9_2 : u_lay RX9 TX9 2 ∈ n_tb := n_a1 218 (by decide +kernel) (by decide +kernel)
theorem wlX9_3 : u_lay RX9 TX9 3 ∈ n_tb := n_a1 220 (by decide +kernel) (by decide +kernel)
theorem wlX9_4 : u_lay RX9 TX9 4 ∈ n_tb := n_a1 222 (by decide +kernel) (by decide +kernel)
theorem wlX9_5 : u_lay RX9 TX9 5 ∈ n_tb := n_a1 224 (by decide +kernel) (by decide +kernel)
theorem wlX9_6 : u_lay RX9 TX9 6 ∈ n_tb := n_a1 226 (by decide +kernel) (by decide +kernel)
theorem wlX9_7 : u_lay RX9 TX9 7 ∈ n_tb := n_a1 228 (by decide +kernel) (by decide +kernel)
theorem wlX9_8 : u_lay RX9 TX9 8 ∈ n_tb := n_a1 230 (by decide +kernel) (by decide +kernel)
theorem wlX9_9 : u_lay RX9 TX9 9 ∈ n_tb := n_a1 232 (by decide +kernel) (by decide +kernel)
theorem wlX9_10 : u_lay RX9 TX9 10 ∈ n_tb := n_a1 234 (by decide +kernel) (by decide +kernel)
theorem wlX9_11 : u_lay RX9 TX9 11 ∈ n_tb := n_a1 236 (by decide +kernel) (by decide +kernel)
theorem wlX9_12 : u_lay RX9 TX9 12 ∈ n_tb := n_a1 238 (by decide +kernel) (by decide +kernel)
theorem wlX9_13 : u_lay RX9 TX9 13 ∈ n_tb := n_a2 0 (by decide +kernel) (by decide +kernel)
theorem wlX9_14 : u_lay RX9 TX9 14 ∈ n_tb := n_a2 2 (by decide +kernel) (by decide +kernel)
theorem wlX9_15 : u_lay RX9 TX9 15 ∈ n_tb := n_a2 4 (by decide +kernel) (by decide +kernel)
theorem wlX9 : ∀ x ∈ u_ws RX9 TX9 16, x ∈ n_tb := by
  intro x hx
  obtain ⟨k, hk, rfl⟩ := List.mem_map.mp hx
  have hk := List.mem_range.mp hk
  match k, hk with
  | 0, _ => exact wlX9_0
  | 1, _ => exact wlX9_1
  | 2, _ => exact wlX9_2
  | 3, _ => exact wlX9_3
  | 4, _ => exact wlX9_4
  | 5, _ => exact wlX9_5
  | 6, _ => exact wlX9_6
  | 7, _ => exact wlX9_7
  | 8, _ => exact wlX9_8
  | 9, _ => exact wlX9_9
  | 10, _ => exact wlX9_10
  | 11, _ => exact wlX9_11
  | 12, _ => exact wlX9_12
  | 13, _ => exact wlX9_13
  | 14, _ => exact wlX9_14
  | 15, _ => exact wlX9_15
  | j + 16, h => exact absurd h (by omega)
theorem nnX9 : ∀ a, a < 16 → ∀ b, b < 16 → a ≠ b → (TX9 a).2.1 ≠ (TX9 b).2.1 := by decide +kernel
theorem ttX9 : ∀ k, k < 16 → parseFieldDescriptor (TX9 k).2.2.1 = some (tyX9 k) := by decide +kernel
theorem wlX10_0 : u_lay RX10 TX10 0 ∈ n_tb := n_a2 105 (by decide +kernel) (by decide +kernel)
theorem wlX10_1 : u_lay RX10 TX10 1 ∈ n_tb := n_a2 107 (by decide +kernel) (by decide +kernel)
theorem wlX10 : ∀ x ∈ u_ws RX10 TX10 2, x ∈ n_tb := by
  intro x hx
  obtain ⟨k, hk, rfl⟩ := List.mem_map.mp hx
  have hk := List.mem_range.mp hk
  match k, hk with
  | 0, _ => exact wlX10_0
  | 1, _ => exact wlX10_1
  | j + 2, h => exact absurd h (by omega)
theorem nnX10 : ∀ a, a < 2 → ∀ b, b < 2 → a ≠ b → (TX10 a).2.1 ≠ (TX10 b).2.1 := by decide +kernel
theorem ttX10 : ∀ k, k < 2 → parseFieldDescriptor (TX10 k).2.2.1 = some (tyX10 k) := by decide +kernel
theorem wlX11_0 : u_lay RX11 TX11 0 ∈ n_tb := n_a2 114 (by decide +kernel) (by decide +kernel)
theorem wlX11_1 : u_lay RX11 TX11 1 ∈ n_tb := n_a2 116 (by decide +kernel) (by decide +kernel)
theorem wlX11_2 : u_lay RX11 TX11 2 ∈ n_tb := n_a2 118 (by decide +kernel) (by decide +kernel)
theorem wlX11_3 : u_lay RX11 TX11 3 ∈ n_tb := n_a2 120 (by decide +kernel) (by decide +kernel)
theorem wlX11 : ∀ x ∈ u_ws RX11 TX11 4, x ∈ n_tb := by
  intro x hx
  obtain ⟨k, hk, rfl⟩ := List.mem_map.mp hx
  have hk := List.mem_range.mp hk
  match k, hk with
  | 0, _ => exact wlX11_0
  | 1, _ => exact wlX11_1
  | 2, _ => exact wlX11_2
  | 3, _ => exact wlX11_3
  | j + 4, h => exact absurd h (by omega)
theorem nnX11 : ∀ a, a < 4 → ∀ b, b < 4 → a ≠ b → (TX11 a).2.1 ≠ (TX11 b).2.1 := by decide +kernel
theorem ttX11 : ∀ k, k < 4 → parseFieldDescriptor (TX11 k).2.2.1 = some (tyX11 k) := by decide +kernel
theorem wlX12_0 : u_lay RX12 TX12 0 ∈ n_tb := n_a6 226 (by decide +kernel) (by decide +kernel)
theorem wlX12_1 : u_lay RX12 TX12 1 ∈ n_tb := n_a6 228 (by decide +kernel) (by decide +kernel)
theorem wlX12_2 : u_lay RX12 TX12 2 ∈ n_tb := n_a6 230 (by decide +kernel) (by decide +kernel)
theorem wlX12_3 : u_lay RX12 TX12 3 ∈ n_tb := n_a6 232 (by decide +kernel) (by decide +kernel)
theorem wlX12_4 : u_lay RX12 TX12 4 ∈ n_tb := n_a6 234 (by decide +kernel) (by decide +kernel)
theorem wlX12_5 : u_lay RX12 TX12 5 ∈ n_tb := n_a6 236 (by decide +kernel) (by decide +kernel)
theorem wlX12_6 : u_lay RX12 TX12 6 ∈ n_tb := n_a6 238 (by decide +kernel) (by decide +kernel)
theorem wlX12_7 : u_lay RX12 TX12 7 ∈ n_tb := n_a7 0 (by decide +kernel) (by decide +kernel)
theorem wlX12_8 : u_lay RX12 TX12 8 ∈ n_tb := n_a7 2 (by decide +kernel) (by decide +kernel)
theorem wlX12_9 : u_lay RX12 TX12 9 ∈ n_tb := n_a7 4 (by decide +kernel) (by decide +kernel)
theorem wlX12_10 : u_lay RX12 TX12 10 ∈ n_tb := n_a7 6 (by decide +kernel) (by decide +kernel)
theorem wlX12_11 : u_lay RX12 TX12 11 ∈ n_tb := n_a7 8 (by decide +kernel) (by decide +kernel)
theorem wlX12_12 : u_lay RX12 TX12 12 ∈ n_tb := n_a7 10 (by decide +kernel) (by decide +kernel)
theorem wlX12_13 : u_lay RX12 TX12 13 ∈ n_tb := n_a7 12 (by decide +kernel) (by decide +kernel)
theorem wlX12_14 : u_lay RX12 TX12 14 ∈ n_tb := n_a7 14 (by decide +kernel) (by decide +kernel)
theorem wlX12_15 : u_lay RX12 TX12 15 ∈ n_tb := n_a7 16 (by decide +kernel) (by decide +kernel)
theorem wlX12_16 : u_lay RX12 TX12 16 ∈ n_tb := n_a7 18 (by decide +kernel) (by decide +kernel)
theorem wlX12_17 : u_lay RX12 TX12 17 ∈ n_tb := n_a7 20 (by decide +kernel) (by decide +kernel)
theorem wlX12_18 : u_lay RX12 TX12 18 ∈ n_tb := n_a7 22 (by decide +kernel) (by decide +kernel)
theorem wlX12_19 : u_lay RX12 TX12 19 ∈ n_tb := n_a7 24 (by decide +kernel) (by decide +kernel)
theorem wlX12_20 : u_lay RX12 TX12 20 ∈ n_tb := n_a7 26 (by decide +kernel) (by decide +kernel)
theorem wlX12_21 : u_lay RX12 TX12 21 ∈ n_tb := n_a7 28 (by decide +kernel) (by decide +kernel)
theorem wlX12_22 : u_lay RX12 TX12 22 ∈ n_tb := n_a7 30 (by decide +kernel) (by decide +kernel)
theorem wlX12_23 : u_lay RX12 TX12 23 ∈ n_tb := n_a7 32 (by decide +kernel) (by decide +kernel)
theorem wlX12_24 : u_lay RX12 TX12 24 ∈ n_tb := n_a7 34 (by decide +kernel) (by decide +kernel)
theorem wlX12_25 : u_lay RX12 TX12 25 ∈ n_tb := n_a7 36 (by decide +kernel) (by decide +kernel)
theorem wlX12_26 : u_lay RX12 TX12 26 ∈ n_tb := n_a7 38 (by decide +kernel) (by decide +kernel)
theorem wlX12_27 : u_lay RX12 TX12 27 ∈ n_tb := n_a7 40 (by decide +kernel) (by decide +kernel)
theorem wlX12_28 : u_lay RX12 TX12 28 ∈ n_tb := n_a7 42 (by decide +kernel) (by decide +kernel)
theorem wlX12_29 : u_lay RX12 TX12 29 ∈ n_tb := n_a7 44 (by decide +kernel) (by decide +kernel)
theorem wlX12_30 : u_lay RX12 TX12 30 ∈ n_tb := n_a7 46 (by decide +kernel) (by decide +kernel)
theorem wlX12_31 : u_lay RX12 TX12 31 ∈ n_tb := n_a7 48 (by decide +kernel) (by decide +kernel)
theorem wlX12_32 : u_lay RX12 TX12 32 ∈ n_tb := n_a7 50 (by decide +kernel) (by decide +kernel)
theorem wlX12_33 : u_lay RX12 TX12 33 ∈ n_tb := n_a7 52 (by decide +kernel) (by decide +kernel)
theorem wlX12_34 : u_lay RX12 TX12 34 ∈ n_tb := n_a7 54 (by decide +kernel) (by decide +kernel)
theorem wlX12_35 : u_lay RX12 TX12 35 ∈ n_tb := n_a7 56 (by decide +kernel) (by decide +kernel)
theorem wlX12_36 : u_lay RX12 TX12 36 ∈ n_tb := n_a7 58 (by decide +kernel) (by decide +kernel)
theorem wlX12_37 : u_lay RX12 TX12 37 ∈ n_tb := n_a7 60 (by decide +kernel) (by decide +kernel)
theorem wlX12_38 : u_lay RX12 TX12 38 ∈ n_tb := n_a7 62 (by decide +kernel) (by decide +kernel)
theorem wlX12_39 : u_lay RX12 TX12 39 ∈ n_tb := n_a7 64 (by decide +kernel) (by decide +kernel)
theorem wlX12_40 : u_lay RX12 TX12 40 ∈ n_tb := n_a7 66 (by decide +kernel) (by decide +kernel)
theorem wlX12_41 : u_lay RX12 TX12 41 ∈ n_tb := n_a7 68 (by decide +kernel) (by decide +kernel)
theorem wlX12_42 : u_lay RX12 TX12 42 ∈ n_tb := n_a7 70 (by decide +kernel) (by decide +kernel)
theorem wlX12_43 : u_lay RX12 TX12 43 ∈ n_tb := n_a7 72 (by decide +kernel) (by decide +kernel)
theorem wlX12_44 : u_lay RX12 TX12 44 ∈ n_tb := n_a7 74 (by decide +kernel) (by decide +kernel)
theorem wlX12_45 : u_lay RX12 TX12 45 ∈ n_tb := n_a7 76 (by decide +kernel) (by decide +kernel)
theorem wlX12_46 : u_lay RX12 TX12 46 ∈ n_tb := n_a7 78 (by decide +kernel) (by decide +kernel)
theorem wlX12_47 : u_lay RX12 TX12 47 ∈ n_tb := n_a7 80 (by decide +kernel) (by decide +kernel)
theorem wlX12_48 : u_lay RX12 TX12 48 ∈ n_tb := n_a7 82 (by decide +kernel) (by decide +kernel)
theorem wlX12_49 : u_lay RX12 TX12 49 ∈ n_tb := n_a7 84 (by decide +kernel) (by decide +kernel)
theorem wlX12_50 : u_lay RX12 TX12 50 ∈ n_tb := n_a7 86 (by decide +kernel) (by decide +kernel)
theorem wlX12_51 : u_lay RX12 TX12 51 ∈ n_tb := n_a7 88 (by decide +kernel) (by decide +kernel)
theorem wlX12_52 : u_lay RX12 TX12 52 ∈ n_tb := n_a7 90 (by decide +kernel) (by decide +kernel)
theorem wlX12 : ∀ x ∈ u_ws RX12 TX12 53, x ∈ n_tb := by
  intro x hx
  obtain ⟨k, hk, rfl⟩ := List.mem_map.mp hx
  have hk := List.mem_range.mp hk
  match k, hk with
  | 0, _ => exact wlX12_0
  | 1, _ => exact wlX12_1
  | 2, _ => exact wlX12_2
  | 3, _ => exact wlX12_3
  | 4, _ => exact wlX12_4
  | 5, _ => exact wlX12_5
  | 6, _ => exact wlX12_6
  | 7, _ => exact wlX12_7
  | 8, _ => exact wlX12_8
  | 9, _ => exact wlX12_9
  | 10, _ => exact wlX12_10
  | 11, _ => exact wlX12_11
  | 12, _ => exact wlX12_12
  | 13, _ => exact wlX12_13
  | 14, _ => exact wlX12_14
  | 15, _ => exact wlX12_15
  | 16, _ => exact wlX12_16
  | 17, _ => exact wlX12_17
  | 18, _ => exact wlX12_18
  | 19, _ => exact wlX12_19
  | 20, _ => exact wlX12_20
  | 21, _ => exact wlX12_21
  | 22, _ => exact wlX12_22
  | 23, _ => exact wlX12_23
  | 24, _ => exact wlX12_24
  | 25, _ => exact wlX12_25
  | 26, _ => exact wlX12_26
  | 27, _ => exact wlX12_27
  | 28, _ => exact wlX12_28
  | 29, _ => exact wlX12_29
  | 30, _ => exact wlX12_30
  | 31, _ => exact wlX12_31
  | 32, _ => exact wlX12_32
  | 33, _ => exact wlX12_33
  | 34, _ => exact wlX12_34
  | 35, _ => exact wlX12_35
  | 36, _ => exact wlX12_36
  | 37, _ => exact wlX12_37
  | 38, _ => exact wlX12_38
  | 39, _ => exact wlX12_39
  | 40, _ => exact wlX12_40
  | 41, _ => exact wlX12_41
  | 42, _ => exact wlX12_42
  | 43, _ => exact wlX12_43
  | 44, _ => exact wlX12_44
  | 45, _ => exact wlX12_45
  | 46, _ => exact wlX12_46
  | 47, _ => exact wlX12_47
  | 48, _ => exact wlX12_48
  | 49, _ => exact wlX12_49
  | 50, _ => exact wlX12_50
  | 51, _ => exact wlX12_51
  | 52, _ => exact wlX12_52
  | j + 53, h => exact absurd h (by omega)
theorem nnX12 : ∀ a, a < 53 → ∀ b, b < 53 → a ≠ b → (TX12 a).2.1 ≠ (TX12 b).2.1 := by decide +kernel
theorem ttX12 : ∀ k, k < 53 → parseFieldDescriptor (TX12 k).2.2.1 = some (tyX12 k) := by decide +kernel
theorem n_clk : ∀ (ci : Nat) (q : vw_C), n_cls[ci]? = some q → (∀ x ∈ u_ws q.1 q.2.1 q.2.2, x ∈ n_tb) ∧ (∀ a, a < q.2.2 → ∀ b, b < q.2.2 → a ≠ b → (q.2.1 a).2.1 ≠ (q.2.1 b).2.1) ∧ ∃ ty : Nat → FieldType, ∀ k, k < q.2.2 → parseFieldDescriptor (q.2.1 k).2.2.1 = some (ty k) := by
  intro ci q h
  match ci, h with
  | 0, h => cases h; exact ⟨wlX1, nnX1, tyX1, ttX1⟩
  | 1, h => cases h; exact ⟨wlX2, nnX2, tyX2, ttX2⟩
  | 2, h => cases h; exact ⟨wlX3, nnX3, tyX3, ttX3⟩
  | 3, h => cases h; exact ⟨wlX5, nnX5, tyX5, ttX5⟩
  | 4, h => cases h; exact ⟨wlX6, nnX6, tyX6, ttX6⟩
  | 5, h => cases h; exact ⟨wlX7, nnX7, tyX7, ttX7⟩
  | 6, h => cases h; exact ⟨wlX8, nnX8, tyX8, ttX8⟩
  | 7, h => cases h; exact ⟨wlX9, nnX9, tyX9, ttX9⟩
  | 8, h => cases h; exact ⟨wlX10, nnX10, tyX10, ttX10⟩
  | 9, h => cases h; exact ⟨wlX11, nnX11, tyX11, ttX11⟩
  | 10, h => cases h; exact ⟨wlX12, nnX12, tyX12, ttX12⟩
  | n + 11, h => exact absurd h (by show ¬ ([] : List vw_C)[n]? = some q; simp)
theorem wk_L_8 : Cond.classLink "ShareMonitorLaw" 8 "ShareMonitor" ∈ n_tb := n_a1 34 (by decide +kernel) (by decide +kernel)
theorem wn_X11 : Cond.instantiable "ShareMonitor" 4 ∈ n_tb := n_a1 35 (by decide +kernel) (by decide +kernel)
theorem wob_X11 : Cond.methodLink "ShareMonitor" 1 Lib.objectInit ∈ n_tb := n_a1 39 (by decide +kernel) (by decide +kernel)
theorem wob_i : Cond.instanceMethod Lib.objectInit ∈ n_tb := n_a1 40 (by decide +kernel) (by decide +kernel)
theorem wob_c : Cond.code Lib.objectInit ⟨#[0xb1]⟩ 1 none ∈ n_tb := n_a1 41 (by decide +kernel) (by decide +kernel)
theorem wk_X11_7 : Cond.classLink "ShareMonitor" 7 "ShareMonitor$Tape" ∈ n_tb := n_a1 42 (by decide +kernel) (by decide +kernel)
theorem wn_X8 : Cond.instantiable "ShareMonitor$Tape" 2 ∈ n_tb := n_a1 43 (by decide +kernel) (by decide +kernel)
theorem wob_X8 : Cond.methodLink "ShareMonitor$Tape" 3 Lib.objectInit ∈ n_tb := n_a1 47 (by decide +kernel) (by decide +kernel)
theorem wa_byte : Cond.arrayClass FieldType.byte ∈ n_tb := n_a1 57 (by decide +kernel) (by decide +kernel)
theorem wk_X11_16 : Cond.classLink "ShareMonitor" 16 "ShareMonitor$Reader" ∈ n_tb := n_a1 58 (by decide +kernel) (by decide +kernel)
theorem wn_X6 : Cond.instantiable "ShareMonitor$Reader" 11 ∈ n_tb := n_a1 59 (by decide +kernel) (by decide +kernel)
theorem wob_X6 : Cond.methodLink "ShareMonitor$Reader" 3 Lib.objectInit ∈ n_tb := n_a1 63 (by decide +kernel) (by decide +kernel)
theorem wa_int : Cond.arrayClass FieldType.int ∈ n_tb := n_a1 100 (by decide +kernel) (by decide +kernel)
theorem wk_X11_25 : Cond.classLink "ShareMonitor" 25 "ShareMonitor$Desk" ∈ n_tb := n_a1 101 (by decide +kernel) (by decide +kernel)
theorem wn_X2 : Cond.instantiable "ShareMonitor$Desk" 11 ∈ n_tb := n_a1 102 (by decide +kernel) (by decide +kernel)
theorem wob_X2 : Cond.methodLink "ShareMonitor$Desk" 3 Lib.objectInit ∈ n_tb := n_a1 106 (by decide +kernel) (by decide +kernel)
theorem wk_X2_9 : Cond.classLink "ShareMonitor$Desk" 9 "ShareMonitor$UserProcess" ∈ n_tb := n_a1 107 (by decide +kernel) (by decide +kernel)
theorem wk_X2_17 : Cond.classLink "ShareMonitor$Desk" 17 "ShareMonitor$Program" ∈ n_tb := n_a1 109 (by decide +kernel) (by decide +kernel)
theorem wk_X2_23 : Cond.classLink "ShareMonitor$Desk" 23 "ShareMonitor$Row" ∈ n_tb := n_a1 111 (by decide +kernel) (by decide +kernel)
theorem wk_X2_36 : Cond.classLink "ShareMonitor$Desk" 36 "ShareMonitor$Memory" ∈ n_tb := n_a1 113 (by decide +kernel) (by decide +kernel)
theorem wn_X3 : Cond.instantiable "ShareMonitor$Memory" 3 ∈ n_tb := n_a1 114 (by decide +kernel) (by decide +kernel)
theorem wob_X3 : Cond.methodLink "ShareMonitor$Memory" 3 Lib.objectInit ∈ n_tb := n_a1 118 (by decide +kernel) (by decide +kernel)
theorem wn_X9 : Cond.instantiable "ShareMonitor$UserProcess" 16 ∈ n_tb := n_a1 134 (by decide +kernel) (by decide +kernel)
theorem wob_X9 : Cond.methodLink "ShareMonitor$UserProcess" 3 Lib.objectInit ∈ n_tb := n_a1 138 (by decide +kernel) (by decide +kernel)
theorem wk_X9_18 : Cond.classLink "ShareMonitor$UserProcess" 18 "ShareMonitor$Box" ∈ n_tb := n_a1 139 (by decide +kernel) (by decide +kernel)
theorem wn_X1 : Cond.instantiable "ShareMonitor$Box" 3 ∈ n_tb := n_a1 140 (by decide +kernel) (by decide +kernel)
theorem wob_X1 : Cond.methodLink "ShareMonitor$Box" 3 Lib.objectInit ∈ n_tb := n_a1 144 (by decide +kernel) (by decide +kernel)
theorem wn_X5 : Cond.instantiable "ShareMonitor$Program" 4 ∈ n_tb := n_a2 7 (by decide +kernel) (by decide +kernel)
theorem wob_X5 : Cond.methodLink "ShareMonitor$Program" 3 Lib.objectInit ∈ n_tb := n_a2 11 (by decide +kernel) (by decide +kernel)
theorem wk_X5_9 : Cond.classLink "ShareMonitor$Program" 9 "ShareMonitor$Op" ∈ n_tb := n_a2 12 (by decide +kernel) (by decide +kernel)
theorem wn_X7 : Cond.instantiable "ShareMonitor$Row" 2 ∈ n_tb := n_a2 34 (by decide +kernel) (by decide +kernel)
theorem wob_X7 : Cond.methodLink "ShareMonitor$Row" 3 Lib.objectInit ∈ n_tb := n_a2 38 (by decide +kernel) (by decide +kernel)
theorem wk_X11_32 : Cond.classLink "ShareMonitor" 32 "ShareMonitor$Worker" ∈ n_tb := n_a2 96 (by decide +kernel) (by decide +kernel)
theorem wn_X10 : Cond.instantiable "ShareMonitor$Worker" 2 ∈ n_tb := n_a2 97 (by decide +kernel) (by decide +kernel)
theorem wob_X10 : Cond.methodLink "ShareMonitor$Worker" 3 Lib.objectInit ∈ n_tb := n_a2 101 (by decide +kernel) (by decide +kernel)
theorem wk_L_13 : Cond.classLink "ShareMonitorLaw" 13 "java/lang/UnsupportedOperationException" ∈ n_tb := n_a5 13 (by decide +kernel) (by decide +kernel)
theorem wk_X11_45 : Cond.classLink "ShareMonitor" 45 "java/lang/UnsupportedOperationException" ∈ n_tb := n_a5 18 (by decide +kernel) (by decide +kernel)
theorem wk_L_19 : Cond.classLink "ShareMonitorLaw" 19 "java/lang/IllegalArgumentException" ∈ n_tb := n_a5 41 (by decide +kernel) (by decide +kernel)
theorem wk_X11_56 : Cond.classLink "ShareMonitor" 56 "java/lang/IllegalArgumentException" ∈ n_tb := n_a5 46 (by decide +kernel) (by decide +kernel)
theorem wk_L_25 : Cond.classLink "ShareMonitorLaw" 25 "java/lang/IndexOutOfBoundsException" ∈ n_tb := n_a5 52 (by decide +kernel) (by decide +kernel)
theorem wk_X11_61 : Cond.classLink "ShareMonitor" 61 "java/lang/IndexOutOfBoundsException" ∈ n_tb := n_a5 57 (by decide +kernel) (by decide +kernel)
theorem wk_L_40 : Cond.classLink "ShareMonitorLaw" 40 "java/lang/IllegalStateException" ∈ n_tb := n_a5 225 (by decide +kernel) (by decide +kernel)
theorem wk_X11_126 : Cond.classLink "ShareMonitor" 126 "java/lang/IllegalStateException" ∈ n_tb := n_a5 230 (by decide +kernel) (by decide +kernel)
theorem wk_L_79 : Cond.classLink "ShareMonitorLaw" 79 "ShareMonitorModel" ∈ n_tb := n_a6 125 (by decide +kernel) (by decide +kernel)
theorem wn_X12 : Cond.instantiable "ShareMonitorModel" 53 ∈ n_tb := n_a6 126 (by decide +kernel) (by decide +kernel)
theorem wob_X12 : Cond.methodLink "ShareMonitorModel" 7 Lib.objectInit ∈ n_tb := n_a6 130 (by decide +kernel) (by decide +kernel)
theorem wa_long : Cond.arrayClass FieldType.long ∈ n_tb := n_a7 93 (by decide +kernel) (by decide +kernel)
theorem wa_boolean : Cond.arrayClass FieldType.boolean ∈ n_tb := n_a7 94 (by decide +kernel) (by decide +kernel)
