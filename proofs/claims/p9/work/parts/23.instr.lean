set_option maxRecDepth 100000 in
theorem zq_0_0 : ∀ e ∈ zm_c0_0, zm_okq 0 e.2 := List.forall_mem_cons.mpr ⟨⟨_, _, _, rfl, rfl, zm_f0.1, zm_f0.2.1, zw_27, zw_28, zw_1⟩, List.forall_mem_cons.mpr ⟨trivial, List.forall_mem_cons.mpr ⟨trivial, List.forall_mem_cons.mpr ⟨trivial, List.forall_mem_cons.mpr ⟨⟨_, _, _, rfl, rfl, zm_f5.1, zm_f5.2.1, zw_714, zw_715, zw_8⟩, List.forall_mem_cons.mpr ⟨trivial, fun _ h => absurd h List.not_mem_nil⟩⟩⟩⟩⟩⟩
set_option maxRecDepth 100000 in
theorem zq_0_1 : ∀ e ∈ zm_c0_1, zm_okq 0 e.2 := List.forall_mem_cons.mpr ⟨trivial, List.forall_mem_cons.mpr ⟨trivial, List.forall_mem_cons.mpr ⟨trivial, List.forall_mem_cons.mpr ⟨⟨_, rfl, rfl, zw_998⟩, List.forall_mem_cons.mpr ⟨trivial, List.forall_mem_cons.mpr ⟨trivial, fun _ h => absurd h List.not_mem_nil⟩⟩⟩⟩⟩⟩
set_option maxRecDepth 100000 in
theorem zq_0_2 : ∀ e ∈ zm_c0_2, zm_okq 0 e.2 := List.forall_mem_cons.mpr ⟨trivial, List.forall_mem_cons.mpr ⟨trivial, List.forall_mem_cons.mpr ⟨trivial, List.forall_mem_cons.mpr ⟨trivial, List.forall_mem_cons.mpr ⟨trivial, List.forall_mem_cons.mpr ⟨trivial, fun _ h => absurd h List.not_mem_nil⟩⟩⟩⟩⟩⟩
set_option maxRecDepth 100000 in
theorem zq_0_3 : ∀ e ∈ zm_c0_3, zm_okq 0 e.2 := List.forall_mem_cons.mpr ⟨trivial, List.forall_mem_cons.mpr ⟨trivial, List.forall_mem_cons.mpr ⟨trivial, List.forall_mem_cons.mpr ⟨trivial, List.forall_mem_cons.mpr ⟨trivial, List.forall_mem_cons.mpr ⟨trivial, fun _ h => absurd h List.not_mem_nil⟩⟩⟩⟩⟩⟩
set_option maxRecDepth 100000 in
theorem zq_0_4 : ∀ e ∈ zm_c0_4, zm_okq 0 e.2 := List.forall_mem_cons.mpr ⟨trivial, List.forall_mem_cons.mpr ⟨trivial, List.forall_mem_cons.mpr ⟨trivial, List.forall_mem_cons.mpr ⟨trivial, List.forall_mem_cons.mpr ⟨trivial, List.forall_mem_cons.mpr ⟨trivial, fun _ h => absurd h List.not_mem_nil⟩⟩⟩⟩⟩⟩
set_option maxRecDepth 100000 in
theorem zq_0_5 : ∀ e ∈ zm_c0_5, zm_okq 0 e.2 := List.forall_mem_cons.mpr ⟨trivial, List.forall_mem_cons.mpr ⟨trivial, List.forall_mem_cons.mpr ⟨trivial, List.forall_mem_cons.mpr ⟨trivial, List.forall_mem_cons.mpr ⟨trivial, List.forall_mem_cons.mpr ⟨trivial, fun _ h => absurd h List.not_mem_nil⟩⟩⟩⟩⟩⟩
set_option maxRecDepth 100000 in
theorem zq_0_6 : ∀ e ∈ zm_c0_6, zm_okq 0 e.2 := List.forall_mem_cons.mpr ⟨trivial, List.forall_mem_cons.mpr ⟨trivial, List.forall_mem_cons.mpr ⟨trivial, List.forall_mem_cons.mpr ⟨trivial, List.forall_mem_cons.mpr ⟨zw_997, List.forall_mem_cons.mpr ⟨trivial, fun _ h => absurd h List.not_mem_nil⟩⟩⟩⟩⟩⟩
set_option maxRecDepth 100000 in
theorem zq_0_7 : ∀ e ∈ zm_c0_7, zm_okq 0 e.2 := List.forall_mem_cons.mpr ⟨trivial, List.forall_mem_cons.mpr ⟨trivial, List.forall_mem_cons.mpr ⟨trivial, List.forall_mem_cons.mpr ⟨trivial, List.forall_mem_cons.mpr ⟨trivial, List.forall_mem_cons.mpr ⟨trivial, fun _ h => absurd h List.not_mem_nil⟩⟩⟩⟩⟩⟩
set_option maxRecDepth 100000 in
theorem zq_0_8 : ∀ e ∈ zm_c0_8, zm_okq 0 e.2 := List.forall_mem_cons.mpr ⟨trivial, List.forall_mem_cons.mpr ⟨trivial, List.forall_mem_cons.mpr ⟨trivial, List.forall_mem_cons.mpr ⟨trivial, List.forall_mem_cons.mpr ⟨trivial, List.forall_mem_cons.mpr ⟨trivial, fun _ h => absurd h List.not_mem_nil⟩⟩⟩⟩⟩⟩
set_option maxRecDepth 100000 in
theorem zq_0_9 : ∀ e ∈ zm_c0_9, zm_okq 0 e.2 := List.forall_mem_cons.mpr ⟨trivial, List.forall_mem_cons.mpr ⟨trivial, List.forall_mem_cons.mpr ⟨trivial, List.forall_mem_cons.mpr ⟨trivial, List.forall_mem_cons.mpr ⟨trivial, List.forall_mem_cons.mpr ⟨trivial, fun _ h => absurd h List.not_mem_nil⟩⟩⟩⟩⟩⟩
set_option maxRecDepth 100000 in
theorem zq_0_10 : ∀ e ∈ zm_c0_10, zm_okq 0 e.2 := List.forall_mem_cons.mpr ⟨trivial, List.forall_mem_cons.mpr ⟨zw_997, List.forall_mem_cons.mpr ⟨trivial, List.forall_mem_cons.mpr ⟨trivial, List.forall_mem_cons.mpr ⟨trivial, List.forall_mem_cons.mpr ⟨trivial, fun _ h => absurd h List.not_mem_nil⟩⟩⟩⟩⟩⟩
set_option maxRecDepth 100000 in
theorem zq_0_11 : ∀ e ∈ zm_c0_11, zm_okq 0 e.2 := List.forall_mem_cons.mpr ⟨trivial, List.forall_mem_cons.mpr ⟨trivial, List.forall_mem_cons.mpr ⟨trivial, List.forall_mem_cons.mpr ⟨trivial, List.forall_mem_cons.mpr ⟨trivial, List.forall_mem_cons.mpr ⟨trivial, fun _ h => absurd h List.not_mem_nil⟩⟩⟩⟩⟩⟩
set_option maxRecDepth 100000 in
theorem zq_0_12 : ∀ e ∈ zm_c0_12, zm_okq 0 e.2 := List.forall_mem_cons.mpr ⟨trivial, List.forall_mem_cons.mpr ⟨trivial, List.forall_mem_cons.mpr ⟨trivial, List.forall_mem_cons.mpr ⟨trivial, List.forall_mem_cons.mpr ⟨trivial, List.forall_mem_cons.mpr ⟨trivial, fun _ h => absurd h List.not_mem_nil⟩⟩⟩⟩⟩⟩
set_option maxRecDepth 100000 in
theorem zq_0_13 : ∀ e ∈ zm_c0_13, zm_okq 0 e.2 := List.forall_mem_cons.mpr ⟨trivial, List.forall_mem_cons.mpr ⟨trivial, List.forall_mem_cons.mpr ⟨trivial, List.forall_mem_cons.mpr ⟨trivial, List.forall_mem_cons.mpr ⟨trivial, List.forall_mem_cons.mpr ⟨trivial, fun _ h => absurd h List.not_mem_nil⟩⟩⟩⟩⟩⟩
set_option maxRecDepth 100000 in
theorem zq_0_14 : ∀ e ∈ zm_c0_14, zm_okq 0 e.2 := List.forall_mem_cons.mpr ⟨trivial, List.forall_mem_cons.mpr ⟨trivial, List.forall_mem_cons.mpr ⟨trivial, List.forall_mem_cons.mpr ⟨trivial, List.forall_mem_cons.mpr ⟨trivial, List.forall_mem_cons.mpr ⟨trivial, fun _ h => absurd h List.not_mem_nil⟩⟩⟩⟩⟩⟩
set_option maxRecDepth 100000 in
theorem zq_0_15 : ∀ e ∈ zm_c0_15, zm_okq 0 e.2 := List.forall_mem_cons.mpr ⟨trivial, List.forall_mem_cons.mpr ⟨trivial, List.forall_mem_cons.mpr ⟨trivial, List.forall_mem_cons.mpr ⟨trivial, List.forall_mem_cons.mpr ⟨trivial, List.forall_mem_cons.mpr ⟨trivial, fun _ h => absurd h List.not_mem_nil⟩⟩⟩⟩⟩⟩
set_option maxRecDepth 100000 in
theorem zq_0_16 : ∀ e ∈ zm_c0_16, zm_okq 0 e.2 := List.forall_mem_cons.mpr ⟨trivial, List.forall_mem_cons.mpr ⟨trivial, List.forall_mem_cons.mpr ⟨trivial, List.forall_mem_cons.mpr ⟨trivial, List.forall_mem_cons.mpr ⟨trivial, List.forall_mem_cons.mpr ⟨trivial, fun _ h => absurd h List.not_mem_nil⟩⟩⟩⟩⟩⟩
set_option maxRecDepth 100000 in
theorem zq_0_17 : ∀ e ∈ zm_c0_17, zm_okq 0 e.2 := List.forall_mem_cons.mpr ⟨trivial, List.forall_mem_cons.mpr ⟨trivial, List.forall_mem_cons.mpr ⟨trivial, List.forall_mem_cons.mpr ⟨trivial, List.forall_mem_cons.mpr ⟨trivial, List.forall_mem_cons.mpr ⟨trivial, fun _ h => absurd h List.not_mem_nil⟩⟩⟩⟩⟩⟩
set_option maxRecDepth 100000 in
theorem zq_0_18 : ∀ e ∈ zm_c0_18, zm_okq 0 e.2 := List.forall_mem_cons.mpr ⟨trivial, List.forall_mem_cons.mpr ⟨trivial, List.forall_mem_cons.mpr ⟨trivial, List.forall_mem_cons.mpr ⟨trivial, List.forall_mem_cons.mpr ⟨trivial, List.forall_mem_cons.mpr ⟨trivial, fun _ h => absurd h List.not_mem_nil⟩⟩⟩⟩⟩⟩
set_option maxRecDepth 100000 in
theorem zq_0_19 : ∀ e ∈ zm_c0_19, zm_okq 0 e.2 := List.forall_mem_cons.mpr ⟨trivial, List.forall_mem_cons.mpr ⟨trivial, List.forall_mem_cons.mpr ⟨trivial, List.forall_mem_cons.mpr ⟨trivial, List.forall_mem_cons.mpr ⟨trivial, List.forall_mem_cons.mpr ⟨trivial, fun _ h => absurd h List.not_mem_nil⟩⟩⟩⟩⟩⟩
set_option maxRecDepth 100000 in
theorem zq_0_20 : ∀ e ∈ zm_c0_20, zm_okq 0 e.2 := List.forall_mem_cons.mpr ⟨trivial, List.forall_mem_cons.mpr ⟨trivial, List.forall_mem_cons.mpr ⟨trivial, List.forall_mem_cons.mpr ⟨trivial, List.forall_mem_cons.mpr ⟨trivial, List.forall_mem_cons.mpr ⟨trivial, fun _ h => absurd h List.not_mem_nil⟩⟩⟩⟩⟩⟩
set_option maxRecDepth 100000 in
theorem zq_0_21 : ∀ e ∈ zm_c0_21, zm_okq 0 e.2 := List.forall_mem_cons.mpr ⟨trivial, List.forall_mem_cons.mpr ⟨trivial, List.forall_mem_cons.mpr ⟨trivial, List.forall_mem_cons.mpr ⟨trivial, List.forall_mem_cons.mpr ⟨trivial, List.forall_mem_cons.mpr ⟨trivial, fun _ h => absurd h List.not_mem_nil⟩⟩⟩⟩⟩⟩
set_option maxRecDepth 100000 in
theorem zq_0_22 : ∀ e ∈ zm_c0_22, zm_okq 0 e.2 := List.forall_mem_cons.mpr ⟨trivial, List.forall_mem_cons.mpr ⟨trivial, List.forall_mem_cons.mpr ⟨trivial, List.forall_mem_cons.mpr ⟨trivial, List.forall_mem_cons.mpr ⟨trivial, List.forall_mem_cons.mpr ⟨trivial, fun _ h => absurd h List.not_mem_nil⟩⟩⟩⟩⟩⟩
set_option maxRecDepth 100000 in
theorem zq_0_23 : ∀ e ∈ zm_c0_23, zm_okq 0 e.2 := List.forall_mem_cons.mpr ⟨trivial, List.forall_mem_cons.mpr ⟨trivial, List.forall_mem_cons.mpr ⟨trivial, List.forall_mem_cons.mpr ⟨trivial, List.forall_mem_cons.mpr ⟨trivial, List.forall_mem_cons.mpr ⟨trivial, fun _ h => absurd h List.not_mem_nil⟩⟩⟩⟩⟩⟩
set_option maxRecDepth 100000 in
theorem zq_1_0 : ∀ e ∈ zm_c1_0, zm_okq 1 e.2 := List.forall_mem_cons.mpr ⟨trivial, List.forall_mem_cons.mpr ⟨trivial, List.forall_mem_cons.mpr ⟨trivial, List.forall_mem_cons.mpr ⟨⟨_, _, _, rfl, rfl, zm_f1.1, zm_f1.2.1, zw_35, zw_36, zw_2⟩, List.forall_mem_cons.mpr ⟨trivial, List.forall_mem_cons.mpr ⟨trivial, fun _ h => absurd h List.not_mem_nil⟩⟩⟩⟩⟩⟩
set_option maxRecDepth 100000 in
theorem zq_1_1 : ∀ e ∈ zm_c1_1, zm_okq 1 e.2 := List.forall_mem_cons.mpr ⟨⟨⟨_, _, _, rfl, by decide, zm_f0.1, zm_f0.2.1, zm_f0.2.2, Or.inl ⟨_, zw_153, Or.inl rfl⟩⟩, zm_okw_f rfl rfl rfl zw_153⟩, List.forall_mem_cons.mpr ⟨trivial, List.forall_mem_cons.mpr ⟨⟨_, _, _, rfl, rfl, zm_f2.1, zm_f2.2.1, zw_69, zw_70, zw_3⟩, List.forall_mem_cons.mpr ⟨trivial, List.forall_mem_cons.mpr ⟨trivial, List.forall_mem_cons.mpr ⟨⟨⟨_, _, _, rfl, by decide, zm_f0.1, zm_f0.2.1, zm_f0.2.2, Or.inl ⟨_, zw_154, Or.inl rfl⟩⟩, zm_okw_f rfl rfl rfl zw_154⟩, fun _ h => absurd h List.not_mem_nil⟩⟩⟩⟩⟩⟩
set_option maxRecDepth 100000 in
theorem zq_1_2 : ∀ e ∈ zm_c1_2, zm_okq 1 e.2 := List.forall_mem_cons.mpr ⟨trivial, List.forall_mem_cons.mpr ⟨trivial, List.forall_mem_cons.mpr ⟨⟨_, rfl, zw_152, zw_151⟩, List.forall_mem_cons.mpr ⟨⟨⟨_, _, _, rfl, by decide, zm_f0.1, zm_f0.2.1, zm_f0.2.2, Or.inl ⟨_, zw_155, Or.inl rfl⟩⟩, zm_okw_f rfl rfl rfl zw_155⟩, List.forall_mem_cons.mpr ⟨trivial, fun _ h => absurd h List.not_mem_nil⟩⟩⟩⟩⟩
set_option maxRecDepth 100000 in
theorem zq_2_0 : ∀ e ∈ zm_c2_0, zm_okq 2 e.2 := List.forall_mem_cons.mpr ⟨trivial, fun _ h => absurd h List.not_mem_nil⟩
set_option maxRecDepth 100000 in
theorem zq_3_0 : ∀ e ∈ zm_c3_0, zm_okq 3 e.2 := List.forall_mem_cons.mpr ⟨trivial, List.forall_mem_cons.mpr ⟨trivial, List.forall_mem_cons.mpr ⟨trivial, List.forall_mem_cons.mpr ⟨trivial, List.forall_mem_cons.mpr ⟨⟨⟨_, _, _, rfl, by decide, zm_f1.1, zm_f1.2.1, zm_f1.2.2, Or.inl ⟨_, zw_43, Or.inl rfl⟩⟩, zm_okw_n rfl rfl⟩, List.forall_mem_cons.mpr ⟨trivial, fun _ h => absurd h List.not_mem_nil⟩⟩⟩⟩⟩⟩
set_option maxRecDepth 100000 in
theorem zq_3_1 : ∀ e ∈ zm_c3_1, zm_okq 3 e.2 := List.forall_mem_cons.mpr ⟨trivial, List.forall_mem_cons.mpr ⟨⟨_, rfl, rfl, zw_68⟩, List.forall_mem_cons.mpr ⟨⟨⟨_, _, _, rfl, by decide, zm_f1.1, zm_f1.2.1, zm_f1.2.2, Or.inl ⟨_, zw_45, Or.inl rfl⟩⟩, zm_okw_f rfl rfl rfl zw_45⟩, List.forall_mem_cons.mpr ⟨trivial, List.forall_mem_cons.mpr ⟨trivial, List.forall_mem_cons.mpr ⟨⟨_, rfl, rfl, zw_68⟩, fun _ h => absurd h List.not_mem_nil⟩⟩⟩⟩⟩⟩
set_option maxRecDepth 100000 in
theorem zq_3_2 : ∀ e ∈ zm_c3_2, zm_okq 3 e.2 := List.forall_mem_cons.mpr ⟨⟨⟨_, _, _, rfl, by decide, zm_f1.1, zm_f1.2.1, zm_f1.2.2, Or.inl ⟨_, zw_46, Or.inl rfl⟩⟩, zm_okw_f rfl rfl rfl zw_46⟩, List.forall_mem_cons.mpr ⟨trivial, fun _ h => absurd h List.not_mem_nil⟩⟩
set_option maxRecDepth 100000 in
theorem zq_4_0 : ∀ e ∈ zm_c4_0, zm_okq 4 e.2 := List.forall_mem_cons.mpr ⟨trivial, List.forall_mem_cons.mpr ⟨trivial, List.forall_mem_cons.mpr ⟨trivial, List.forall_mem_cons.mpr ⟨⟨_, _, _, rfl, rfl, zm_f3.1, zm_f3.2.1, zw_75, zw_76, zw_4⟩, List.forall_mem_cons.mpr ⟨trivial, List.forall_mem_cons.mpr ⟨trivial, fun _ h => absurd h List.not_mem_nil⟩⟩⟩⟩⟩⟩
set_option maxRecDepth 100000 in
theorem zq_4_1 : ∀ e ∈ zm_c4_1, zm_okq 4 e.2 := List.forall_mem_cons.mpr ⟨⟨⟨_, _, _, rfl, by decide, zm_f2.1, zm_f2.2.1, zm_f2.2.2, Or.inl ⟨_, zw_128, Or.inl rfl⟩⟩, zm_okw_f rfl rfl rfl zw_128⟩, List.forall_mem_cons.mpr ⟨trivial, List.forall_mem_cons.mpr ⟨⟨_, _, _, rfl, by decide, zm_f2.1, zm_f2.2.1, zm_f2.2.2, Or.inl ⟨_, zw_128, Or.inl rfl⟩⟩, List.forall_mem_cons.mpr ⟨trivial, List.forall_mem_cons.mpr ⟨⟨⟨_, _, _, rfl, by decide, zm_f3.1, zm_f3.2.1, zm_f3.2.2, Or.inl ⟨_, zw_81, Or.inl rfl⟩⟩, zm_okw_n rfl rfl⟩, List.forall_mem_cons.mpr ⟨trivial, fun _ h => absurd h List.not_mem_nil⟩⟩⟩⟩⟩⟩
set_option maxRecDepth 100000 in
theorem zq_4_2 : ∀ e ∈ zm_c4_2, zm_okq 4 e.2 := List.forall_mem_cons.mpr ⟨⟨_, _, _, rfl, rfl, zm_f4.1, zm_f4.2.1, zw_102, zw_103, zw_7⟩, List.forall_mem_cons.mpr ⟨trivial, List.forall_mem_cons.mpr ⟨trivial, List.forall_mem_cons.mpr ⟨⟨⟨_, _, _, rfl, by decide, zm_f2.1, zm_f2.2.1, zm_f2.2.2, Or.inl ⟨_, zw_130, Or.inl rfl⟩⟩, zm_okw_f rfl rfl rfl zw_130⟩, List.forall_mem_cons.mpr ⟨trivial, List.forall_mem_cons.mpr ⟨⟨_, _, _, rfl, rfl, zm_f4.1, zm_f4.2.1, zw_102, zw_103, zw_7⟩, fun _ h => absurd h List.not_mem_nil⟩⟩⟩⟩⟩⟩
set_option maxRecDepth 100000 in
theorem zq_4_3 : ∀ e ∈ zm_c4_3, zm_okq 4 e.2 := List.forall_mem_cons.mpr ⟨trivial, List.forall_mem_cons.mpr ⟨trivial, List.forall_mem_cons.mpr ⟨⟨⟨_, _, _, rfl, by decide, zm_f2.1, zm_f2.2.1, zm_f2.2.2, Or.inl ⟨_, zw_131, Or.inl rfl⟩⟩, zm_okw_f rfl rfl rfl zw_131⟩, List.forall_mem_cons.mpr ⟨trivial, List.forall_mem_cons.mpr ⟨⟨_, _, _, rfl, rfl, zm_f4.1, zm_f4.2.1, zw_102, zw_103, zw_7⟩, List.forall_mem_cons.mpr ⟨trivial, fun _ h => absurd h List.not_mem_nil⟩⟩⟩⟩⟩⟩
set_option maxRecDepth 100000 in
theorem zq_4_4 : ∀ e ∈ zm_c4_4, zm_okq 4 e.2 := List.forall_mem_cons.mpr ⟨trivial, List.forall_mem_cons.mpr ⟨⟨⟨_, _, _, rfl, by decide, zm_f2.1, zm_f2.2.1, zm_f2.2.2, Or.inl ⟨_, zw_132, Or.inl rfl⟩⟩, zm_okw_f rfl rfl rfl zw_132⟩, List.forall_mem_cons.mpr ⟨trivial, fun _ h => absurd h List.not_mem_nil⟩⟩⟩
set_option maxRecDepth 100000 in
theorem zq_5_0 : ∀ e ∈ zm_c5_0, zm_okq 5 e.2 := List.forall_mem_cons.mpr ⟨trivial, List.forall_mem_cons.mpr ⟨trivial, List.forall_mem_cons.mpr ⟨trivial, fun _ h => absurd h List.not_mem_nil⟩⟩⟩
set_option maxRecDepth 100000 in
theorem zq_6_0 : ∀ e ∈ zm_c6_0, zm_okq 6 e.2 := List.forall_mem_cons.mpr ⟨trivial, List.forall_mem_cons.mpr ⟨trivial, List.forall_mem_cons.mpr ⟨trivial, List.forall_mem_cons.mpr ⟨⟨_, List.mem_cons_self, rfl, zw_114⟩, List.forall_mem_cons.mpr ⟨⟨⟨_, _, _, rfl, by decide, zm_f4.1, zm_f4.2.1, zm_f4.2.2, Or.inl ⟨_, zw_116, Or.inl rfl⟩⟩, zm_okw_n rfl rfl⟩, List.forall_mem_cons.mpr ⟨trivial, fun _ h => absurd h List.not_mem_nil⟩⟩⟩⟩⟩⟩
set_option maxRecDepth 100000 in
theorem zq_7_0 : ∀ e ∈ zm_c7_0, zm_okq 7 e.2 := List.forall_mem_cons.mpr ⟨trivial, List.forall_mem_cons.mpr ⟨trivial, List.forall_mem_cons.mpr ⟨trivial, List.forall_mem_cons.mpr ⟨trivial, List.forall_mem_cons.mpr ⟨⟨⟨_, _, _, rfl, by decide, zm_f4.1, zm_f4.2.1, zm_f4.2.2, Or.inl ⟨_, zw_118, Or.inl rfl⟩⟩, zm_okw_n rfl rfl⟩, List.forall_mem_cons.mpr ⟨trivial, fun _ h => absurd h List.not_mem_nil⟩⟩⟩⟩⟩⟩
set_option maxRecDepth 100000 in
theorem zq_8_0 : ∀ e ∈ zm_c8_0, zm_okq 8 e.2 := List.forall_mem_cons.mpr ⟨trivial, List.forall_mem_cons.mpr ⟨trivial, List.forall_mem_cons.mpr ⟨trivial, fun _ h => absurd h List.not_mem_nil⟩⟩⟩
set_option maxRecDepth 100000 in
theorem zq_9_0 : ∀ e ∈ zm_c9_0, zm_okq 9 e.2 := List.forall_mem_cons.mpr ⟨trivial, List.forall_mem_cons.mpr ⟨trivial, List.forall_mem_cons.mpr ⟨trivial, List.forall_mem_cons.mpr ⟨⟨_, _, _, rfl, by decide, zm_f0.1, zm_f0.2.1, zm_f0.2.2, Or.inl ⟨_, zw_153, Or.inl rfl⟩⟩, List.forall_mem_cons.mpr ⟨⟨_, _, _, rfl, by decide, zm_f1.1, zm_f1.2.1, zm_f1.2.2, Or.inl ⟨_, zw_44, Or.inl rfl⟩⟩, List.forall_mem_cons.mpr ⟨trivial, fun _ h => absurd h List.not_mem_nil⟩⟩⟩⟩⟩⟩
set_option maxRecDepth 100000 in
theorem zq_9_1 : ∀ e ∈ zm_c9_1, zm_okq 9 e.2 := List.forall_mem_cons.mpr ⟨trivial, List.forall_mem_cons.mpr ⟨⟨_, _, _, rfl, by decide, zm_f0.1, zm_f0.2.1, zm_f0.2.2, Or.inl ⟨_, zw_153, Or.inl rfl⟩⟩, List.forall_mem_cons.mpr ⟨⟨_, _, _, rfl, by decide, zm_f1.1, zm_f1.2.1, zm_f1.2.2, Or.inl ⟨_, zw_42, Or.inl rfl⟩⟩, List.forall_mem_cons.mpr ⟨trivial, List.forall_mem_cons.mpr ⟨trivial, List.forall_mem_cons.mpr ⟨trivial, fun _ h => absurd h List.not_mem_nil⟩⟩⟩⟩⟩⟩
set_option maxRecDepth 100000 in
theorem zq_9_2 : ∀ e ∈ zm_c9_2, zm_okq 9 e.2 := List.forall_mem_cons.mpr ⟨trivial, List.forall_mem_cons.mpr ⟨trivial, List.forall_mem_cons.mpr ⟨⟨_, _, _, rfl, by decide, zm_f0.1, zm_f0.2.1, zm_f0.2.2, Or.inl ⟨_, zw_157, Or.inl rfl⟩⟩, List.forall_mem_cons.mpr ⟨trivial, List.forall_mem_cons.mpr ⟨trivial, List.forall_mem_cons.mpr ⟨⟨_, _, _, rfl, by decide, zm_f0.1, zm_f0.2.1, zm_f0.2.2, Or.inl ⟨_, zw_158, Or.inl rfl⟩⟩, fun _ h => absurd h List.not_mem_nil⟩⟩⟩⟩⟩⟩
set_option maxRecDepth 100000 in
theorem zq_9_3 : ∀ e ∈ zm_c9_3, zm_okq 9 e.2 := List.forall_mem_cons.mpr ⟨trivial, List.forall_mem_cons.mpr ⟨trivial, List.forall_mem_cons.mpr ⟨⟨_, _, _, rfl, by decide, zm_f0.1, zm_f0.2.1, zm_f0.2.2, Or.inl ⟨_, zw_159, Or.inl rfl⟩⟩, List.forall_mem_cons.mpr ⟨trivial, List.forall_mem_cons.mpr ⟨trivial, List.forall_mem_cons.mpr ⟨⟨_, _, _, rfl, by decide, zm_f0.1, zm_f0.2.1, zm_f0.2.2, Or.inl ⟨_, zw_160, Or.inl rfl⟩⟩, fun _ h => absurd h List.not_mem_nil⟩⟩⟩⟩⟩⟩
set_option maxRecDepth 100000 in
theorem zq_9_4 : ∀ e ∈ zm_c9_4, zm_okq 9 e.2 := List.forall_mem_cons.mpr ⟨trivial, List.forall_mem_cons.mpr ⟨trivial, List.forall_mem_cons.mpr ⟨⟨_, _, _, rfl, by decide, zm_f0.1, zm_f0.2.1, zm_f0.2.2, Or.inl ⟨_, zw_161, Or.inl rfl⟩⟩, List.forall_mem_cons.mpr ⟨trivial, List.forall_mem_cons.mpr ⟨trivial, List.forall_mem_cons.mpr ⟨trivial, fun _ h => absurd h List.not_mem_nil⟩⟩⟩⟩⟩⟩
set_option maxRecDepth 100000 in
theorem zq_10_0 : ∀ e ∈ zm_c10_0, zm_okq 10 e.2 := List.forall_mem_cons.mpr ⟨trivial, List.forall_mem_cons.mpr ⟨trivial, List.forall_mem_cons.mpr ⟨trivial, List.forall_mem_cons.mpr ⟨⟨_, _, _, rfl, by decide, zm_f0.1, zm_f0.2.1, zm_f0.2.2, Or.inl ⟨_, zw_155, Or.inl rfl⟩⟩, List.forall_mem_cons.mpr ⟨trivial, List.forall_mem_cons.mpr ⟨trivial, fun _ h => absurd h List.not_mem_nil⟩⟩⟩⟩⟩⟩
set_option maxRecDepth 100000 in
theorem zq_10_1 : ∀ e ∈ zm_c10_1, zm_okq 10 e.2 := List.forall_mem_cons.mpr ⟨trivial, List.forall_mem_cons.mpr ⟨trivial, List.forall_mem_cons.mpr ⟨trivial, List.forall_mem_cons.mpr ⟨trivial, List.forall_mem_cons.mpr ⟨trivial, List.forall_mem_cons.mpr ⟨trivial, fun _ h => absurd h List.not_mem_nil⟩⟩⟩⟩⟩⟩
set_option maxRecDepth 100000 in
theorem zq_10_2 : ∀ e ∈ zm_c10_2, zm_okq 10 e.2 := List.forall_mem_cons.mpr ⟨trivial, List.forall_mem_cons.mpr ⟨trivial, List.forall_mem_cons.mpr ⟨trivial, List.forall_mem_cons.mpr ⟨trivial, List.forall_mem_cons.mpr ⟨trivial, List.forall_mem_cons.mpr ⟨trivial, fun _ h => absurd h List.not_mem_nil⟩⟩⟩⟩⟩⟩
set_option maxRecDepth 100000 in
theorem zq_10_3 : ∀ e ∈ zm_c10_3, zm_okq 10 e.2 := List.forall_mem_cons.mpr ⟨trivial, List.forall_mem_cons.mpr ⟨trivial, List.forall_mem_cons.mpr ⟨trivial, List.forall_mem_cons.mpr ⟨trivial, List.forall_mem_cons.mpr ⟨trivial, List.forall_mem_cons.mpr ⟨trivial, fun _ h => absurd h List.not_mem_nil⟩⟩⟩⟩⟩⟩
set_option maxRecDepth 100000 in
theorem zq_11_0 : ∀ e ∈ zm_c11_0, zm_okq 11 e.2 := List.forall_mem_cons.mpr ⟨trivial, List.forall_mem_cons.mpr ⟨trivial, List.forall_mem_cons.mpr ⟨trivial, List.forall_mem_cons.mpr ⟨trivial, List.forall_mem_cons.mpr ⟨trivial, List.forall_mem_cons.mpr ⟨trivial, fun _ h => absurd h List.not_mem_nil⟩⟩⟩⟩⟩⟩
set_option maxRecDepth 100000 in
theorem zq_11_1 : ∀ e ∈ zm_c11_1, zm_okq 11 e.2 := List.forall_mem_cons.mpr ⟨trivial, List.forall_mem_cons.mpr ⟨trivial, List.forall_mem_cons.mpr ⟨trivial, List.forall_mem_cons.mpr ⟨trivial, List.forall_mem_cons.mpr ⟨trivial, List.forall_mem_cons.mpr ⟨trivial, fun _ h => absurd h List.not_mem_nil⟩⟩⟩⟩⟩⟩
set_option maxRecDepth 100000 in
theorem zq_11_2 : ∀ e ∈ zm_c11_2, zm_okq 11 e.2 := List.forall_mem_cons.mpr ⟨trivial, List.forall_mem_cons.mpr ⟨trivial, List.forall_mem_cons.mpr ⟨trivial, List.forall_mem_cons.mpr ⟨trivial, fun _ h => absurd h List.not_mem_nil⟩⟩⟩⟩
set_option maxRecDepth 100000 in
theorem zq_12_0 : ∀ e ∈ zm_c12_0, zm_okq 12 e.2 := List.forall_mem_cons.mpr ⟨trivial, List.forall_mem_cons.mpr ⟨⟨_, _, _, rfl, by decide, zm_f0.1, zm_f0.2.1, zm_f0.2.2, Or.inl ⟨_, zw_153, Or.inl rfl⟩⟩, List.forall_mem_cons.mpr ⟨trivial, List.forall_mem_cons.mpr ⟨trivial, List.forall_mem_cons.mpr ⟨trivial, fun _ h => absurd h List.not_mem_nil⟩⟩⟩⟩⟩
set_option maxRecDepth 100000 in
theorem zq_13_0 : ∀ e ∈ zm_c13_0, zm_okq 13 e.2 := List.forall_mem_cons.mpr ⟨trivial, List.forall_mem_cons.mpr ⟨trivial, List.forall_mem_cons.mpr ⟨trivial, List.forall_mem_cons.mpr ⟨trivial, List.forall_mem_cons.mpr ⟨trivial, List.forall_mem_cons.mpr ⟨trivial, fun _ h => absurd h List.not_mem_nil⟩⟩⟩⟩⟩⟩
set_option maxRecDepth 100000 in
theorem zq_13_1 : ∀ e ∈ zm_c13_1, zm_okq 13 e.2 := List.forall_mem_cons.mpr ⟨trivial, List.forall_mem_cons.mpr ⟨trivial, List.forall_mem_cons.mpr ⟨trivial, List.forall_mem_cons.mpr ⟨trivial, List.forall_mem_cons.mpr ⟨trivial, List.forall_mem_cons.mpr ⟨trivial, fun _ h => absurd h List.not_mem_nil⟩⟩⟩⟩⟩⟩
set_option maxRecDepth 100000 in
theorem zq_13_2 : ∀ e ∈ zm_c13_2, zm_okq 13 e.2 := List.forall_mem_cons.mpr ⟨trivial, List.forall_mem_cons.mpr ⟨trivial, List.forall_mem_cons.mpr ⟨trivial, List.forall_mem_cons.mpr ⟨trivial, List.forall_mem_cons.mpr ⟨trivial, List.forall_mem_cons.mpr ⟨trivial, fun _ h => absurd h List.not_mem_nil⟩⟩⟩⟩⟩⟩
set_option maxRecDepth 100000 in
theorem zq_13_3 : ∀ e ∈ zm_c13_3, zm_okq 13 e.2 := List.forall_mem_cons.mpr ⟨trivial, List.forall_mem_cons.mpr ⟨trivial, List.forall_mem_cons.mpr ⟨trivial, List.forall_mem_cons.mpr ⟨trivial, List.forall_mem_cons.mpr ⟨trivial, List.forall_mem_cons.mpr ⟨trivial, fun _ h => absurd h List.not_mem_nil⟩⟩⟩⟩⟩⟩
set_option maxRecDepth 100000 in
theorem zq_13_4 : ∀ e ∈ zm_c13_4, zm_okq 13 e.2 := List.forall_mem_cons.mpr ⟨trivial, List.forall_mem_cons.mpr ⟨trivial, List.forall_mem_cons.mpr ⟨trivial, List.forall_mem_cons.mpr ⟨trivial, List.forall_mem_cons.mpr ⟨trivial, List.forall_mem_cons.mpr ⟨⟨_, _, _, rfl, by decide, zm_f1.1, zm_f1.2.1, zm_f1.2.2, Or.inl ⟨_, zw_41, Or.inl rfl⟩⟩, fun _ h => absurd h List.not_mem_nil⟩⟩⟩⟩⟩⟩
set_option maxRecDepth 100000 in
theorem zq_13_5 : ∀ e ∈ zm_c13_5, zm_okq 13 e.2 := List.forall_mem_cons.mpr ⟨trivial, List.forall_mem_cons.mpr ⟨trivial, List.forall_mem_cons.mpr ⟨trivial, List.forall_mem_cons.mpr ⟨trivial, List.forall_mem_cons.mpr ⟨trivial, List.forall_mem_cons.mpr ⟨trivial, fun _ h => absurd h List.not_mem_nil⟩⟩⟩⟩⟩⟩
set_option maxRecDepth 100000 in
theorem zq_13_6 : ∀ e ∈ zm_c13_6, zm_okq 13 e.2 := List.forall_mem_cons.mpr ⟨trivial, List.forall_mem_cons.mpr ⟨trivial, List.forall_mem_cons.mpr ⟨trivial, List.forall_mem_cons.mpr ⟨trivial, List.forall_mem_cons.mpr ⟨trivial, List.forall_mem_cons.mpr ⟨trivial, fun _ h => absurd h List.not_mem_nil⟩⟩⟩⟩⟩⟩
set_option maxRecDepth 100000 in
theorem zq_13_7 : ∀ e ∈ zm_c13_7, zm_okq 13 e.2 := List.forall_mem_cons.mpr ⟨trivial, List.forall_mem_cons.mpr ⟨trivial, List.forall_mem_cons.mpr ⟨trivial, List.forall_mem_cons.mpr ⟨⟨_, _, _, rfl, by decide, zm_f1.1, zm_f1.2.1, zm_f1.2.2, Or.inl ⟨_, zw_45, Or.inl rfl⟩⟩, List.forall_mem_cons.mpr ⟨trivial, List.forall_mem_cons.mpr ⟨⟨_, _, _, rfl, by decide, zm_f1.1, zm_f1.2.1, zm_f1.2.2, Or.inl ⟨_, zw_41, Or.inl rfl⟩⟩, fun _ h => absurd h List.not_mem_nil⟩⟩⟩⟩⟩⟩
set_option maxRecDepth 100000 in
theorem zq_13_8 : ∀ e ∈ zm_c13_8, zm_okq 13 e.2 := List.forall_mem_cons.mpr ⟨trivial, List.forall_mem_cons.mpr ⟨trivial, List.forall_mem_cons.mpr ⟨trivial, List.forall_mem_cons.mpr ⟨trivial, List.forall_mem_cons.mpr ⟨trivial, List.forall_mem_cons.mpr ⟨⟨_, _, _, rfl, by decide, zm_f1.1, zm_f1.2.1, zm_f1.2.2, Or.inl ⟨_, zw_41, Or.inl rfl⟩⟩, fun _ h => absurd h List.not_mem_nil⟩⟩⟩⟩⟩⟩
set_option maxRecDepth 100000 in
theorem zq_13_9 : ∀ e ∈ zm_c13_9, zm_okq 13 e.2 := List.forall_mem_cons.mpr ⟨trivial, List.forall_mem_cons.mpr ⟨trivial, List.forall_mem_cons.mpr ⟨⟨⟨_, _, _, rfl, by decide, zm_f1.1, zm_f1.2.1, zm_f1.2.2, Or.inl ⟨_, zw_41, Or.inl rfl⟩⟩, zm_okw_n rfl rfl⟩, List.forall_mem_cons.mpr ⟨trivial, List.forall_mem_cons.mpr ⟨trivial, List.forall_mem_cons.mpr ⟨trivial, fun _ h => absurd h List.not_mem_nil⟩⟩⟩⟩⟩⟩
set_option maxRecDepth 100000 in
theorem zq_13_10 : ∀ e ∈ zm_c13_10, zm_okq 13 e.2 := List.forall_mem_cons.mpr ⟨⟨_, _, _, rfl, by decide, zm_f1.1, zm_f1.2.1, zm_f1.2.2, Or.inl ⟨_, zw_41, Or.inl rfl⟩⟩, List.forall_mem_cons.mpr ⟨trivial, fun _ h => absurd h List.not_mem_nil⟩⟩
set_option maxRecDepth 100000 in
theorem zq_14_0 : ∀ e ∈ zm_c14_0, zm_okq 14 e.2 := List.forall_mem_cons.mpr ⟨trivial, List.forall_mem_cons.mpr ⟨trivial, List.forall_mem_cons.mpr ⟨trivial, List.forall_mem_cons.mpr ⟨trivial, List.forall_mem_cons.mpr ⟨trivial, List.forall_mem_cons.mpr ⟨trivial, fun _ h => absurd h List.not_mem_nil⟩⟩⟩⟩⟩⟩
set_option maxRecDepth 100000 in
theorem zq_14_1 : ∀ e ∈ zm_c14_1, zm_okq 14 e.2 := List.forall_mem_cons.mpr ⟨trivial, fun _ h => absurd h List.not_mem_nil⟩
set_option maxRecDepth 100000 in
theorem zq_15_0 : ∀ e ∈ zm_c15_0, zm_okq 15 e.2 := List.forall_mem_cons.mpr ⟨trivial, List.forall_mem_cons.mpr ⟨trivial, List.forall_mem_cons.mpr ⟨trivial, List.forall_mem_cons.mpr ⟨trivial, List.forall_mem_cons.mpr ⟨trivial, List.forall_mem_cons.mpr ⟨trivial, fun _ h => absurd h List.not_mem_nil⟩⟩⟩⟩⟩⟩
set_option maxRecDepth 100000 in
theorem zq_15_1 : ∀ e ∈ zm_c15_1, zm_okq 15 e.2 := List.forall_mem_cons.mpr ⟨trivial, List.forall_mem_cons.mpr ⟨trivial, List.forall_mem_cons.mpr ⟨trivial, List.forall_mem_cons.mpr ⟨trivial, List.forall_mem_cons.mpr ⟨trivial, List.forall_mem_cons.mpr ⟨trivial, fun _ h => absurd h List.not_mem_nil⟩⟩⟩⟩⟩⟩
set_option maxRecDepth 100000 in
theorem zq_16_0 : ∀ e ∈ zm_c16_0, zm_okq 16 e.2 := List.forall_mem_cons.mpr ⟨trivial, List.forall_mem_cons.mpr ⟨⟨_, _, _, rfl, by decide, zm_f0.1, zm_f0.2.1, zm_f0.2.2, Or.inl ⟨_, zw_153, Or.inl rfl⟩⟩, List.forall_mem_cons.mpr ⟨trivial, List.forall_mem_cons.mpr ⟨trivial, List.forall_mem_cons.mpr ⟨trivial, List.forall_mem_cons.mpr ⟨⟨_, _, _, rfl, by decide, zm_f0.1, zm_f0.2.1, zm_f0.2.2, Or.inl ⟨_, zw_155, Or.inl rfl⟩⟩, fun _ h => absurd h List.not_mem_nil⟩⟩⟩⟩⟩⟩
set_option maxRecDepth 100000 in
theorem zq_16_1 : ∀ e ∈ zm_c16_1, zm_okq 16 e.2 := List.forall_mem_cons.mpr ⟨trivial, List.forall_mem_cons.mpr ⟨⟨_, _, _, rfl, by decide, zm_f6.1, zm_f6.2.1, zm_f6.2.2, Or.inl ⟨_, zw_386, Or.inl rfl⟩⟩, List.forall_mem_cons.mpr ⟨trivial, List.forall_mem_cons.mpr ⟨trivial, List.forall_mem_cons.mpr ⟨trivial, List.forall_mem_cons.mpr ⟨⟨_, _, _, rfl, by decide, zm_f6.1, zm_f6.2.1, zm_f6.2.2, Or.inl ⟨_, zw_388, Or.inl rfl⟩⟩, fun _ h => absurd h List.not_mem_nil⟩⟩⟩⟩⟩⟩
set_option maxRecDepth 100000 in
theorem zq_16_2 : ∀ e ∈ zm_c16_2, zm_okq 16 e.2 := List.forall_mem_cons.mpr ⟨trivial, fun _ h => absurd h List.not_mem_nil⟩
set_option maxRecDepth 100000 in
theorem zq_17_0 : ∀ e ∈ zm_c17_0, zm_okq 17 e.2 := List.forall_mem_cons.mpr ⟨trivial, List.forall_mem_cons.mpr ⟨trivial, List.forall_mem_cons.mpr ⟨trivial, List.forall_mem_cons.mpr ⟨trivial, List.forall_mem_cons.mpr ⟨⟨_, _, _, rfl, by decide, zm_f1.1, zm_f1.2.1, zm_f1.2.2, Or.inl ⟨_, zw_49, Or.inl rfl⟩⟩, List.forall_mem_cons.mpr ⟨trivial, fun _ h => absurd h List.not_mem_nil⟩⟩⟩⟩⟩⟩
set_option maxRecDepth 100000 in
theorem zq_17_1 : ∀ e ∈ zm_c17_1, zm_okq 17 e.2 := List.forall_mem_cons.mpr ⟨⟨_, _, _, rfl, by decide, zm_f1.1, zm_f1.2.1, zm_f1.2.2, Or.inl ⟨_, zw_48, Or.inl rfl⟩⟩, List.forall_mem_cons.mpr ⟨trivial, List.forall_mem_cons.mpr ⟨trivial, List.forall_mem_cons.mpr ⟨⟨_, _, _, rfl, by decide, zm_f1.1, zm_f1.2.1, zm_f1.2.2, Or.inl ⟨_, zw_45, Or.inl rfl⟩⟩, List.forall_mem_cons.mpr ⟨trivial, List.forall_mem_cons.mpr ⟨⟨_, _, _, rfl, by decide, zm_f1.1, zm_f1.2.1, zm_f1.2.2, Or.inl ⟨_, zw_49, Or.inl rfl⟩⟩, fun _ h => absurd h List.not_mem_nil⟩⟩⟩⟩⟩⟩
set_option maxRecDepth 100000 in
theorem zq_17_2 : ∀ e ∈ zm_c17_2, zm_okq 17 e.2 := List.forall_mem_cons.mpr ⟨trivial, List.forall_mem_cons.mpr ⟨trivial, List.forall_mem_cons.mpr ⟨trivial, List.forall_mem_cons.mpr ⟨trivial, List.forall_mem_cons.mpr ⟨trivial, List.forall_mem_cons.mpr ⟨trivial, fun _ h => absurd h List.not_mem_nil⟩⟩⟩⟩⟩⟩
set_option maxRecDepth 100000 in
theorem zq_17_3 : ∀ e ∈ zm_c17_3, zm_okq 17 e.2 := List.forall_mem_cons.mpr ⟨trivial, List.forall_mem_cons.mpr ⟨trivial, List.forall_mem_cons.mpr ⟨⟨_, _, _, rfl, by decide, zm_f1.1, zm_f1.2.1, zm_f1.2.2, Or.inl ⟨_, zw_45, Or.inl rfl⟩⟩, List.forall_mem_cons.mpr ⟨trivial, List.forall_mem_cons.mpr ⟨⟨_, _, _, rfl, by decide, zm_f1.1, zm_f1.2.1, zm_f1.2.2, Or.inl ⟨_, zw_49, Or.inl rfl⟩⟩, List.forall_mem_cons.mpr ⟨trivial, fun _ h => absurd h List.not_mem_nil⟩⟩⟩⟩⟩⟩
set_option maxRecDepth 100000 in
theorem zq_17_4 : ∀ e ∈ zm_c17_4, zm_okq 17 e.2 := List.forall_mem_cons.mpr ⟨trivial, List.forall_mem_cons.mpr ⟨trivial, List.forall_mem_cons.mpr ⟨trivial, List.forall_mem_cons.mpr ⟨trivial, List.forall_mem_cons.mpr ⟨trivial, List.forall_mem_cons.mpr ⟨⟨_, _, _, rfl, by decide, zm_f1.1, zm_f1.2.1, zm_f1.2.2, Or.inl ⟨_, zw_49, Or.inl rfl⟩⟩, fun _ h => absurd h List.not_mem_nil⟩⟩⟩⟩⟩⟩
set_option maxRecDepth 100000 in
theorem zq_17_5 : ∀ e ∈ zm_c17_5, zm_okq 17 e.2 := List.forall_mem_cons.mpr ⟨trivial, List.forall_mem_cons.mpr ⟨trivial, List.forall_mem_cons.mpr ⟨⟨⟨_, _, _, rfl, by decide, zm_f1.1, zm_f1.2.1, zm_f1.2.2, Or.inl ⟨_, zw_49, Or.inl rfl⟩⟩, zm_okw_n rfl rfl⟩, List.forall_mem_cons.mpr ⟨trivial, List.forall_mem_cons.mpr ⟨trivial, List.forall_mem_cons.mpr ⟨trivial, fun _ h => absurd h List.not_mem_nil⟩⟩⟩⟩⟩⟩
set_option maxRecDepth 100000 in
theorem zq_17_6 : ∀ e ∈ zm_c17_6, zm_okq 17 e.2 := List.forall_mem_cons.mpr ⟨trivial, List.forall_mem_cons.mpr ⟨⟨_, _, _, rfl, by decide, zm_f1.1, zm_f1.2.1, zm_f1.2.2, Or.inl ⟨_, zw_49, Or.inl rfl⟩⟩, List.forall_mem_cons.mpr ⟨trivial, List.forall_mem_cons.mpr ⟨⟨_, _, _, rfl, by decide, zm_f1.1, zm_f1.2.1, zm_f1.2.2, Or.inl ⟨_, zw_48, Or.inl rfl⟩⟩, List.forall_mem_cons.mpr ⟨trivial, List.forall_mem_cons.mpr ⟨trivial, fun _ h => absurd h List.not_mem_nil⟩⟩⟩⟩⟩⟩
set_option maxRecDepth 100000 in
theorem zq_17_7 : ∀ e ∈ zm_c17_7, zm_okq 17 e.2 := List.forall_mem_cons.mpr ⟨⟨_, _, _, rfl, by decide, zm_f1.1, zm_f1.2.1, zm_f1.2.2, Or.inl ⟨_, zw_45, Or.inl rfl⟩⟩, List.forall_mem_cons.mpr ⟨trivial, List.forall_mem_cons.mpr ⟨⟨_, _, _, rfl, by decide, zm_f1.1, zm_f1.2.1, zm_f1.2.2, Or.inl ⟨_, zw_49, Or.inl rfl⟩⟩, List.forall_mem_cons.mpr ⟨trivial, List.forall_mem_cons.mpr ⟨trivial, List.forall_mem_cons.mpr ⟨trivial, fun _ h => absurd h List.not_mem_nil⟩⟩⟩⟩⟩⟩
set_option maxRecDepth 100000 in
theorem zq_17_8 : ∀ e ∈ zm_c17_8, zm_okq 17 e.2 := List.forall_mem_cons.mpr ⟨trivial, List.forall_mem_cons.mpr ⟨trivial, List.forall_mem_cons.mpr ⟨trivial, List.forall_mem_cons.mpr ⟨trivial, List.forall_mem_cons.mpr ⟨trivial, List.forall_mem_cons.mpr ⟨trivial, fun _ h => absurd h List.not_mem_nil⟩⟩⟩⟩⟩⟩
set_option maxRecDepth 100000 in
theorem zq_17_9 : ∀ e ∈ zm_c17_9, zm_okq 17 e.2 := List.forall_mem_cons.mpr ⟨⟨_, _, _, rfl, by decide, zm_f1.1, zm_f1.2.1, zm_f1.2.2, Or.inl ⟨_, zw_49, Or.inl rfl⟩⟩, List.forall_mem_cons.mpr ⟨trivial, List.forall_mem_cons.mpr ⟨trivial, List.forall_mem_cons.mpr ⟨⟨⟨_, _, _, rfl, by decide, zm_f1.1, zm_f1.2.1, zm_f1.2.2, Or.inl ⟨_, zw_49, Or.inl rfl⟩⟩, zm_okw_n rfl rfl⟩, List.forall_mem_cons.mpr ⟨⟨_, _, _, rfl, rfl, zm_f6.1, zm_f6.2.1, zw_326, zw_327, zw_14⟩, List.forall_mem_cons.mpr ⟨trivial, fun _ h => absurd h List.not_mem_nil⟩⟩⟩⟩⟩⟩
set_option maxRecDepth 100000 in
theorem zq_17_10 : ∀ e ∈ zm_c17_10, zm_okq 17 e.2 := List.forall_mem_cons.mpr ⟨trivial, List.forall_mem_cons.mpr ⟨trivial, List.forall_mem_cons.mpr ⟨⟨_, _, _, rfl, by decide, zm_f1.1, zm_f1.2.1, zm_f1.2.2, Or.inl ⟨_, zw_47, Or.inl rfl⟩⟩, List.forall_mem_cons.mpr ⟨trivial, List.forall_mem_cons.mpr ⟨trivial, List.forall_mem_cons.mpr ⟨trivial, fun _ h => absurd h List.not_mem_nil⟩⟩⟩⟩⟩⟩
set_option maxRecDepth 100000 in
theorem zq_17_11 : ∀ e ∈ zm_c17_11, zm_okq 17 e.2 := List.forall_mem_cons.mpr ⟨trivial, fun _ h => absurd h List.not_mem_nil⟩
set_option maxRecDepth 100000 in
theorem zq_18_0 : ∀ e ∈ zm_c18_0, zm_okq 18 e.2 := List.forall_mem_cons.mpr ⟨trivial, List.forall_mem_cons.mpr ⟨trivial, List.forall_mem_cons.mpr ⟨⟨_, _, _, rfl, by decide, zm_f1.1, zm_f1.2.1, zm_f1.2.2, Or.inl ⟨_, zw_41, Or.inl rfl⟩⟩, List.forall_mem_cons.mpr ⟨⟨⟨_, _, _, rfl, by decide, zm_f1.1, zm_f1.2.1, zm_f1.2.2, Or.inl ⟨_, zw_48, Or.inl rfl⟩⟩, zm_okw_n rfl rfl⟩, List.forall_mem_cons.mpr ⟨trivial, List.forall_mem_cons.mpr ⟨trivial, fun _ h => absurd h List.not_mem_nil⟩⟩⟩⟩⟩⟩
set_option maxRecDepth 100000 in
theorem zq_18_1 : ∀ e ∈ zm_c18_1, zm_okq 18 e.2 := List.forall_mem_cons.mpr ⟨⟨⟨_, _, _, rfl, by decide, zm_f1.1, zm_f1.2.1, zm_f1.2.2, Or.inl ⟨_, zw_41, Or.inl rfl⟩⟩, zm_okw_n rfl rfl⟩, List.forall_mem_cons.mpr ⟨trivial, List.forall_mem_cons.mpr ⟨trivial, List.forall_mem_cons.mpr ⟨⟨⟨_, _, _, rfl, by decide, zm_f1.1, zm_f1.2.1, zm_f1.2.2, Or.inl ⟨_, zw_49, Or.inl rfl⟩⟩, zm_okw_n rfl rfl⟩, List.forall_mem_cons.mpr ⟨trivial, List.forall_mem_cons.mpr ⟨trivial, fun _ h => absurd h List.not_mem_nil⟩⟩⟩⟩⟩⟩
set_option maxRecDepth 100000 in
theorem zq_18_2 : ∀ e ∈ zm_c18_2, zm_okq 18 e.2 := List.forall_mem_cons.mpr ⟨⟨⟨_, _, _, rfl, by decide, zm_f1.1, zm_f1.2.1, zm_f1.2.2, Or.inl ⟨_, zw_47, Or.inl rfl⟩⟩, zm_okw_n rfl rfl⟩, List.forall_mem_cons.mpr ⟨trivial, fun _ h => absurd h List.not_mem_nil⟩⟩
set_option maxRecDepth 100000 in
theorem zq_19_0 : ∀ e ∈ zm_c19_0, zm_okq 19 e.2 := List.forall_mem_cons.mpr ⟨trivial, List.forall_mem_cons.mpr ⟨trivial, List.forall_mem_cons.mpr ⟨trivial, List.forall_mem_cons.mpr ⟨trivial, List.forall_mem_cons.mpr ⟨trivial, List.forall_mem_cons.mpr ⟨trivial, fun _ h => absurd h List.not_mem_nil⟩⟩⟩⟩⟩⟩
set_option maxRecDepth 100000 in
theorem zq_19_1 : ∀ e ∈ zm_c19_1, zm_okq 19 e.2 := List.forall_mem_cons.mpr ⟨trivial, List.forall_mem_cons.mpr ⟨trivial, List.forall_mem_cons.mpr ⟨trivial, List.forall_mem_cons.mpr ⟨trivial, fun _ h => absurd h List.not_mem_nil⟩⟩⟩⟩
set_option maxRecDepth 100000 in
theorem zq_20_0 : ∀ e ∈ zm_c20_0, zm_okq 20 e.2 := List.forall_mem_cons.mpr ⟨trivial, List.forall_mem_cons.mpr ⟨trivial, List.forall_mem_cons.mpr ⟨trivial, List.forall_mem_cons.mpr ⟨trivial, List.forall_mem_cons.mpr ⟨⟨_, _, _, rfl, by decide, zm_f1.1, zm_f1.2.1, zm_f1.2.2, Or.inl ⟨_, zw_49, Or.inl rfl⟩⟩, List.forall_mem_cons.mpr ⟨⟨⟨_, _, _, rfl, by decide, zm_f1.1, zm_f1.2.1, zm_f1.2.2, Or.inl ⟨_, zw_43, Or.inl rfl⟩⟩, zm_okw_n rfl rfl⟩, fun _ h => absurd h List.not_mem_nil⟩⟩⟩⟩⟩⟩
set_option maxRecDepth 100000 in
theorem zq_20_1 : ∀ e ∈ zm_c20_1, zm_okq 20 e.2 := List.forall_mem_cons.mpr ⟨trivial, fun _ h => absurd h List.not_mem_nil⟩
set_option maxRecDepth 100000 in
theorem zq_21_0 : ∀ e ∈ zm_c21_0, zm_okq 21 e.2 := List.forall_mem_cons.mpr ⟨trivial, List.forall_mem_cons.mpr ⟨⟨_, _, _, rfl, by decide, zm_f1.1, zm_f1.2.1, zm_f1.2.2, Or.inl ⟨_, zw_47, Or.inl rfl⟩⟩, List.forall_mem_cons.mpr ⟨trivial, List.forall_mem_cons.mpr ⟨trivial, List.forall_mem_cons.mpr ⟨trivial, List.forall_mem_cons.mpr ⟨⟨_, _, _, rfl, by decide, zm_f1.1, zm_f1.2.1, zm_f1.2.2, Or.inl ⟨_, zw_49, Or.inl rfl⟩⟩, fun _ h => absurd h List.not_mem_nil⟩⟩⟩⟩⟩⟩
set_option maxRecDepth 100000 in
theorem zq_21_1 : ∀ e ∈ zm_c21_1, zm_okq 21 e.2 := List.forall_mem_cons.mpr ⟨trivial, List.forall_mem_cons.mpr ⟨⟨_, _, _, rfl, by decide, zm_f1.1, zm_f1.2.1, zm_f1.2.2, Or.inl ⟨_, zw_48, Or.inl rfl⟩⟩, List.forall_mem_cons.mpr ⟨trivial, List.forall_mem_cons.mpr ⟨trivial, List.forall_mem_cons.mpr ⟨trivial, List.forall_mem_cons.mpr ⟨⟨_, _, _, rfl, by decide, zm_f1.1, zm_f1.2.1, zm_f1.2.2, Or.inl ⟨_, zw_45, Or.inl rfl⟩⟩, fun _ h => absurd h List.not_mem_nil⟩⟩⟩⟩⟩⟩
set_option maxRecDepth 100000 in
theorem zq_21_2 : ∀ e ∈ zm_c21_2, zm_okq 21 e.2 := List.forall_mem_cons.mpr ⟨trivial, List.forall_mem_cons.mpr ⟨⟨_, _, _, rfl, by decide, zm_f1.1, zm_f1.2.1, zm_f1.2.2, Or.inl ⟨_, zw_49, Or.inl rfl⟩⟩, List.forall_mem_cons.mpr ⟨trivial, List.forall_mem_cons.mpr ⟨trivial, List.forall_mem_cons.mpr ⟨trivial, List.forall_mem_cons.mpr ⟨trivial, fun _ h => absurd h List.not_mem_nil⟩⟩⟩⟩⟩⟩
set_option maxRecDepth 100000 in
theorem zq_21_3 : ∀ e ∈ zm_c21_3, zm_okq 21 e.2 := List.forall_mem_cons.mpr ⟨⟨_, _, _, rfl, by decide, zm_f1.1, zm_f1.2.1, zm_f1.2.2, Or.inl ⟨_, zw_46, Or.inl rfl⟩⟩, List.forall_mem_cons.mpr ⟨trivial, List.forall_mem_cons.mpr ⟨⟨_, _, _, rfl, by decide, zm_f1.1, zm_f1.2.1, zm_f1.2.2, Or.inl ⟨_, zw_47, Or.inl rfl⟩⟩, List.forall_mem_cons.mpr ⟨trivial, List.forall_mem_cons.mpr ⟨⟨_, _, _, rfl, by decide, zm_f1.1, zm_f1.2.1, zm_f1.2.2, Or.inl ⟨_, zw_45, Or.inl rfl⟩⟩, List.forall_mem_cons.mpr ⟨trivial, fun _ h => absurd h List.not_mem_nil⟩⟩⟩⟩⟩⟩
set_option maxRecDepth 100000 in
theorem zq_21_4 : ∀ e ∈ zm_c21_4, zm_okq 21 e.2 := List.forall_mem_cons.mpr ⟨⟨_, _, _, rfl, by decide, zm_f1.1, zm_f1.2.1, zm_f1.2.2, Or.inl ⟨_, zw_49, Or.inl rfl⟩⟩, List.forall_mem_cons.mpr ⟨trivial, List.forall_mem_cons.mpr ⟨trivial, List.forall_mem_cons.mpr ⟨trivial, List.forall_mem_cons.mpr ⟨trivial, List.forall_mem_cons.mpr ⟨⟨_, _, _, rfl, by decide, zm_f1.1, zm_f1.2.1, zm_f1.2.2, Or.inl ⟨_, zw_47, Or.inl rfl⟩⟩, fun _ h => absurd h List.not_mem_nil⟩⟩⟩⟩⟩⟩
set_option maxRecDepth 100000 in
theorem zq_21_5 : ∀ e ∈ zm_c21_5, zm_okq 21 e.2 := List.forall_mem_cons.mpr ⟨trivial, List.forall_mem_cons.mpr ⟨trivial, List.forall_mem_cons.mpr ⟨⟨⟨_, _, _, rfl, by decide, zm_f1.1, zm_f1.2.1, zm_f1.2.2, Or.inl ⟨_, zw_47, Or.inl rfl⟩⟩, zm_okw_n rfl rfl⟩, List.forall_mem_cons.mpr ⟨trivial, List.forall_mem_cons.mpr ⟨trivial, List.forall_mem_cons.mpr ⟨⟨_, _, _, rfl, by decide, zm_f1.1, zm_f1.2.1, zm_f1.2.2, Or.inl ⟨_, zw_49, Or.inl rfl⟩⟩, fun _ h => absurd h List.not_mem_nil⟩⟩⟩⟩⟩⟩
set_option maxRecDepth 100000 in
theorem zq_21_6 : ∀ e ∈ zm_c21_6, zm_okq 21 e.2 := List.forall_mem_cons.mpr ⟨trivial, List.forall_mem_cons.mpr ⟨trivial, List.forall_mem_cons.mpr ⟨⟨⟨_, _, _, rfl, by decide, zm_f1.1, zm_f1.2.1, zm_f1.2.2, Or.inl ⟨_, zw_49, Or.inl rfl⟩⟩, zm_okw_n rfl rfl⟩, List.forall_mem_cons.mpr ⟨trivial, List.forall_mem_cons.mpr ⟨trivial, fun _ h => absurd h List.not_mem_nil⟩⟩⟩⟩⟩
set_option maxRecDepth 100000 in
theorem zq_22_0 : ∀ e ∈ zm_c22_0, zm_okq 22 e.2 := List.forall_mem_cons.mpr ⟨trivial, List.forall_mem_cons.mpr ⟨trivial, List.forall_mem_cons.mpr ⟨trivial, List.forall_mem_cons.mpr ⟨trivial, List.forall_mem_cons.mpr ⟨trivial, List.forall_mem_cons.mpr ⟨trivial, fun _ h => absurd h List.not_mem_nil⟩⟩⟩⟩⟩⟩
set_option maxRecDepth 100000 in
theorem zq_22_1 : ∀ e ∈ zm_c22_1, zm_okq 22 e.2 := List.forall_mem_cons.mpr ⟨trivial, List.forall_mem_cons.mpr ⟨trivial, List.forall_mem_cons.mpr ⟨trivial, List.forall_mem_cons.mpr ⟨trivial, List.forall_mem_cons.mpr ⟨trivial, List.forall_mem_cons.mpr ⟨trivial, fun _ h => absurd h List.not_mem_nil⟩⟩⟩⟩⟩⟩
set_option maxRecDepth 100000 in
theorem zq_22_2 : ∀ e ∈ zm_c22_2, zm_okq 22 e.2 := List.forall_mem_cons.mpr ⟨trivial, List.forall_mem_cons.mpr ⟨trivial, fun _ h => absurd h List.not_mem_nil⟩⟩
set_option maxRecDepth 100000 in
theorem zq_23_0 : ∀ e ∈ zm_c23_0, zm_okq 23 e.2 := List.forall_mem_cons.mpr ⟨trivial, List.forall_mem_cons.mpr ⟨trivial, List.forall_mem_cons.mpr ⟨trivial, List.forall_mem_cons.mpr ⟨trivial, List.forall_mem_cons.mpr ⟨⟨_, _, _, rfl, by decide, zm_f1.1, zm_f1.2.1, zm_f1.2.2, Or.inl ⟨_, zw_47, Or.inl rfl⟩⟩, List.forall_mem_cons.mpr ⟨trivial, fun _ h => absurd h List.not_mem_nil⟩⟩⟩⟩⟩⟩
set_option maxRecDepth 100000 in
theorem zq_23_1 : ∀ e ∈ zm_c23_1, zm_okq 23 e.2 := List.forall_mem_cons.mpr ⟨trivial, List.forall_mem_cons.mpr ⟨⟨_, _, _, rfl, by decide, zm_f1.1, zm_f1.2.1, zm_f1.2.2, Or.inl ⟨_, zw_46, Or.inl rfl⟩⟩, List.forall_mem_cons.mpr ⟨trivial, List.forall_mem_cons.mpr ⟨trivial, List.forall_mem_cons.mpr ⟨trivial, List.forall_mem_cons.mpr ⟨trivial, fun _ h => absurd h List.not_mem_nil⟩⟩⟩⟩⟩⟩
set_option maxRecDepth 100000 in
theorem zq_23_2 : ∀ e ∈ zm_c23_2, zm_okq 23 e.2 := List.forall_mem_cons.mpr ⟨trivial, List.forall_mem_cons.mpr ⟨trivial, List.forall_mem_cons.mpr ⟨trivial, List.forall_mem_cons.mpr ⟨trivial, List.forall_mem_cons.mpr ⟨trivial, List.forall_mem_cons.mpr ⟨trivial, fun _ h => absurd h List.not_mem_nil⟩⟩⟩⟩⟩⟩
set_option maxRecDepth 100000 in
theorem zq_24_0 : ∀ e ∈ zm_c24_0, zm_okq 24 e.2 := List.forall_mem_cons.mpr ⟨trivial, List.forall_mem_cons.mpr ⟨trivial, List.forall_mem_cons.mpr ⟨⟨⟨_, _, _, rfl, by decide, zm_f1.1, zm_f1.2.1, zm_f1.2.2, Or.inl ⟨_, zw_50, Or.inl rfl⟩⟩, zm_okw_n rfl rfl⟩, List.forall_mem_cons.mpr ⟨trivial, List.forall_mem_cons.mpr ⟨trivial, List.forall_mem_cons.mpr ⟨trivial, fun _ h => absurd h List.not_mem_nil⟩⟩⟩⟩⟩⟩
set_option maxRecDepth 100000 in
theorem zq_24_1 : ∀ e ∈ zm_c24_1, zm_okq 24 e.2 := List.forall_mem_cons.mpr ⟨trivial, List.forall_mem_cons.mpr ⟨trivial, List.forall_mem_cons.mpr ⟨trivial, List.forall_mem_cons.mpr ⟨⟨_, _, _, rfl, by decide, zm_f1.1, zm_f1.2.1, zm_f1.2.2, Or.inl ⟨_, zw_49, Or.inl rfl⟩⟩, List.forall_mem_cons.mpr ⟨trivial, List.forall_mem_cons.mpr ⟨⟨_, _, _, rfl, by decide, zm_f1.1, zm_f1.2.1, zm_f1.2.2, Or.inl ⟨_, zw_48, Or.inl rfl⟩⟩, fun _ h => absurd h List.not_mem_nil⟩⟩⟩⟩⟩⟩
set_option maxRecDepth 100000 in
theorem zq_24_2 : ∀ e ∈ zm_c24_2, zm_okq 24 e.2 := List.forall_mem_cons.mpr ⟨trivial, List.forall_mem_cons.mpr ⟨trivial, List.forall_mem_cons.mpr ⟨trivial, List.forall_mem_cons.mpr ⟨trivial, List.forall_mem_cons.mpr ⟨trivial, List.forall_mem_cons.mpr ⟨trivial, fun _ h => absurd h List.not_mem_nil⟩⟩⟩⟩⟩⟩
set_option maxRecDepth 100000 in
theorem zq_24_3 : ∀ e ∈ zm_c24_3, zm_okq 24 e.2 := List.forall_mem_cons.mpr ⟨trivial, fun _ h => absurd h List.not_mem_nil⟩
set_option maxRecDepth 100000 in
theorem zq_25_0 : ∀ e ∈ zm_c25_0, zm_okq 25 e.2 := List.forall_mem_cons.mpr ⟨trivial, List.forall_mem_cons.mpr ⟨trivial, List.forall_mem_cons.mpr ⟨⟨_, _, _, rfl, by decide, zm_f1.1, zm_f1.2.1, zm_f1.2.2, Or.inl ⟨_, zw_49, Or.inl rfl⟩⟩, List.forall_mem_cons.mpr ⟨trivial, List.forall_mem_cons.mpr ⟨⟨_, _, _, rfl, by decide, zm_f1.1, zm_f1.2.1, zm_f1.2.2, Or.inl ⟨_, zw_48, Or.inl rfl⟩⟩, List.forall_mem_cons.mpr ⟨trivial, fun _ h => absurd h List.not_mem_nil⟩⟩⟩⟩⟩⟩
set_option maxRecDepth 100000 in
theorem zq_25_1 : ∀ e ∈ zm_c25_1, zm_okq 25 e.2 := List.forall_mem_cons.mpr ⟨trivial, List.forall_mem_cons.mpr ⟨trivial, List.forall_mem_cons.mpr ⟨⟨_, _, _, rfl, by decide, zm_f1.1, zm_f1.2.1, zm_f1.2.2, Or.inl ⟨_, zw_45, Or.inl rfl⟩⟩, List.forall_mem_cons.mpr ⟨trivial, List.forall_mem_cons.mpr ⟨⟨_, _, _, rfl, by decide, zm_f1.1, zm_f1.2.1, zm_f1.2.2, Or.inl ⟨_, zw_49, Or.inl rfl⟩⟩, List.forall_mem_cons.mpr ⟨trivial, fun _ h => absurd h List.not_mem_nil⟩⟩⟩⟩⟩⟩
set_option maxRecDepth 100000 in
theorem zq_25_2 : ∀ e ∈ zm_c25_2, zm_okq 25 e.2 := List.forall_mem_cons.mpr ⟨trivial, List.forall_mem_cons.mpr ⟨trivial, List.forall_mem_cons.mpr ⟨trivial, List.forall_mem_cons.mpr ⟨trivial, List.forall_mem_cons.mpr ⟨trivial, List.forall_mem_cons.mpr ⟨trivial, fun _ h => absurd h List.not_mem_nil⟩⟩⟩⟩⟩⟩
set_option maxRecDepth 100000 in
theorem zq_25_3 : ∀ e ∈ zm_c25_3, zm_okq 25 e.2 := List.forall_mem_cons.mpr ⟨trivial, List.forall_mem_cons.mpr ⟨trivial, List.forall_mem_cons.mpr ⟨⟨_, _, _, rfl, by decide, zm_f1.1, zm_f1.2.1, zm_f1.2.2, Or.inl ⟨_, zw_45, Or.inl rfl⟩⟩, List.forall_mem_cons.mpr ⟨trivial, List.forall_mem_cons.mpr ⟨⟨_, _, _, rfl, by decide, zm_f1.1, zm_f1.2.1, zm_f1.2.2, Or.inl ⟨_, zw_49, Or.inl rfl⟩⟩, List.forall_mem_cons.mpr ⟨trivial, fun _ h => absurd h List.not_mem_nil⟩⟩⟩⟩⟩⟩
set_option maxRecDepth 100000 in
theorem zq_25_4 : ∀ e ∈ zm_c25_4, zm_okq 25 e.2 := List.forall_mem_cons.mpr ⟨trivial, List.forall_mem_cons.mpr ⟨trivial, List.forall_mem_cons.mpr ⟨trivial, List.forall_mem_cons.mpr ⟨trivial, List.forall_mem_cons.mpr ⟨trivial, List.forall_mem_cons.mpr ⟨trivial, fun _ h => absurd h List.not_mem_nil⟩⟩⟩⟩⟩⟩
set_option maxRecDepth 100000 in
theorem zq_25_5 : ∀ e ∈ zm_c25_5, zm_okq 25 e.2 := List.forall_mem_cons.mpr ⟨⟨_, _, _, rfl, by decide, zm_f1.1, zm_f1.2.1, zm_f1.2.2, Or.inl ⟨_, zw_49, Or.inl rfl⟩⟩, List.forall_mem_cons.mpr ⟨trivial, List.forall_mem_cons.mpr ⟨trivial, List.forall_mem_cons.mpr ⟨⟨⟨_, _, _, rfl, by decide, zm_f1.1, zm_f1.2.1, zm_f1.2.2, Or.inl ⟨_, zw_49, Or.inl rfl⟩⟩, zm_okw_n rfl rfl⟩, List.forall_mem_cons.mpr ⟨trivial, List.forall_mem_cons.mpr ⟨trivial, fun _ h => absurd h List.not_mem_nil⟩⟩⟩⟩⟩⟩
set_option maxRecDepth 100000 in
theorem zq_25_6 : ∀ e ∈ zm_c25_6, zm_okq 25 e.2 := List.forall_mem_cons.mpr ⟨⟨_, _, _, rfl, by decide, zm_f1.1, zm_f1.2.1, zm_f1.2.2, Or.inl ⟨_, zw_50, Or.inl rfl⟩⟩, List.forall_mem_cons.mpr ⟨trivial, List.forall_mem_cons.mpr ⟨trivial, List.forall_mem_cons.mpr ⟨trivial, List.forall_mem_cons.mpr ⟨trivial, List.forall_mem_cons.mpr ⟨⟨⟨_, _, _, rfl, by decide, zm_f1.1, zm_f1.2.1, zm_f1.2.2, Or.inl ⟨_, zw_50, Or.inl rfl⟩⟩, zm_okw_n rfl rfl⟩, fun _ h => absurd h List.not_mem_nil⟩⟩⟩⟩⟩⟩
set_option maxRecDepth 100000 in
theorem zq_25_7 : ∀ e ∈ zm_c25_7, zm_okq 25 e.2 := List.forall_mem_cons.mpr ⟨trivial, List.forall_mem_cons.mpr ⟨trivial, List.forall_mem_cons.mpr ⟨trivial, List.forall_mem_cons.mpr ⟨trivial, List.forall_mem_cons.mpr ⟨trivial, List.forall_mem_cons.mpr ⟨trivial, fun _ h => absurd h List.not_mem_nil⟩⟩⟩⟩⟩⟩
set_option maxRecDepth 100000 in
theorem zq_25_8 : ∀ e ∈ zm_c25_8, zm_okq 25 e.2 := List.forall_mem_cons.mpr ⟨trivial, List.forall_mem_cons.mpr ⟨trivial, List.forall_mem_cons.mpr ⟨trivial, List.forall_mem_cons.mpr ⟨trivial, List.forall_mem_cons.mpr ⟨trivial, List.forall_mem_cons.mpr ⟨trivial, fun _ h => absurd h List.not_mem_nil⟩⟩⟩⟩⟩⟩
set_option maxRecDepth 100000 in
theorem zq_25_9 : ∀ e ∈ zm_c25_9, zm_okq 25 e.2 := List.forall_mem_cons.mpr ⟨trivial, List.forall_mem_cons.mpr ⟨trivial, List.forall_mem_cons.mpr ⟨trivial, List.forall_mem_cons.mpr ⟨trivial, List.forall_mem_cons.mpr ⟨trivial, List.forall_mem_cons.mpr ⟨trivial, fun _ h => absurd h List.not_mem_nil⟩⟩⟩⟩⟩⟩
set_option maxRecDepth 100000 in
theorem zq_25_10 : ∀ e ∈ zm_c25_10, zm_okq 25 e.2 := List.forall_mem_cons.mpr ⟨trivial, List.forall_mem_cons.mpr ⟨trivial, List.forall_mem_cons.mpr ⟨trivial, List.forall_mem_cons.mpr ⟨trivial, List.forall_mem_cons.mpr ⟨trivial, List.forall_mem_cons.mpr ⟨trivial, fun _ h => absurd h List.not_mem_nil⟩⟩⟩⟩⟩⟩
set_option maxRecDepth 100000 in
theorem zq_25_11 : ∀ e ∈ zm_c25_11, zm_okq 25 e.2 := List.forall_mem_cons.mpr ⟨trivial, List.forall_mem_cons.mpr ⟨trivial, List.forall_mem_cons.mpr ⟨trivial, List.forall_mem_cons.mpr ⟨trivial, List.forall_mem_cons.mpr ⟨trivial, List.forall_mem_cons.mpr ⟨trivial, fun _ h => absurd h List.not_mem_nil⟩⟩⟩⟩⟩⟩
set_option maxRecDepth 100000 in
theorem zq_25_12 : ∀ e ∈ zm_c25_12, zm_okq 25 e.2 := List.forall_mem_cons.mpr ⟨trivial, List.forall_mem_cons.mpr ⟨trivial, List.forall_mem_cons.mpr ⟨trivial, List.forall_mem_cons.mpr ⟨trivial, List.forall_mem_cons.mpr ⟨⟨_, _, _, rfl, rfl, zm_f7.1, zm_f7.2.1, zw_354, zw_355, zw_15⟩, List.forall_mem_cons.mpr ⟨trivial, fun _ h => absurd h List.not_mem_nil⟩⟩⟩⟩⟩⟩
set_option maxRecDepth 100000 in
theorem zq_25_13 : ∀ e ∈ zm_c25_13, zm_okq 25 e.2 := List.forall_mem_cons.mpr ⟨trivial, List.forall_mem_cons.mpr ⟨trivial, List.forall_mem_cons.mpr ⟨trivial, List.forall_mem_cons.mpr ⟨trivial, List.forall_mem_cons.mpr ⟨trivial, List.forall_mem_cons.mpr ⟨trivial, fun _ h => absurd h List.not_mem_nil⟩⟩⟩⟩⟩⟩
set_option maxRecDepth 100000 in
theorem zq_25_14 : ∀ e ∈ zm_c25_14, zm_okq 25 e.2 := List.forall_mem_cons.mpr ⟨trivial, fun _ h => absurd h List.not_mem_nil⟩
set_option maxRecDepth 100000 in
theorem zq_26_0 : ∀ e ∈ zm_c26_0, zm_okq 26 e.2 := List.forall_mem_cons.mpr ⟨trivial, List.forall_mem_cons.mpr ⟨trivial, List.forall_mem_cons.mpr ⟨trivial, List.forall_mem_cons.mpr ⟨trivial, List.forall_mem_cons.mpr ⟨trivial, List.forall_mem_cons.mpr ⟨trivial, fun _ h => absurd h List.not_mem_nil⟩⟩⟩⟩⟩⟩
set_option maxRecDepth 100000 in
theorem zq_26_1 : ∀ e ∈ zm_c26_1, zm_okq 26 e.2 := List.forall_mem_cons.mpr ⟨trivial, List.forall_mem_cons.mpr ⟨trivial, List.forall_mem_cons.mpr ⟨trivial, List.forall_mem_cons.mpr ⟨trivial, List.forall_mem_cons.mpr ⟨trivial, List.forall_mem_cons.mpr ⟨trivial, fun _ h => absurd h List.not_mem_nil⟩⟩⟩⟩⟩⟩
set_option maxRecDepth 100000 in
theorem zq_26_2 : ∀ e ∈ zm_c26_2, zm_okq 26 e.2 := List.forall_mem_cons.mpr ⟨trivial, List.forall_mem_cons.mpr ⟨⟨_, _, _, rfl, by decide, zm_f1.1, zm_f1.2.1, zm_f1.2.2, Or.inl ⟨_, zw_49, Or.inl rfl⟩⟩, List.forall_mem_cons.mpr ⟨trivial, List.forall_mem_cons.mpr ⟨⟨_, _, _, rfl, by decide, zm_f1.1, zm_f1.2.1, zm_f1.2.2, Or.inl ⟨_, zw_50, Or.inl rfl⟩⟩, List.forall_mem_cons.mpr ⟨trivial, List.forall_mem_cons.mpr ⟨trivial, fun _ h => absurd h List.not_mem_nil⟩⟩⟩⟩⟩⟩
set_option maxRecDepth 100000 in
theorem zq_26_3 : ∀ e ∈ zm_c26_3, zm_okq 26 e.2 := List.forall_mem_cons.mpr ⟨trivial, List.forall_mem_cons.mpr ⟨trivial, List.forall_mem_cons.mpr ⟨trivial, List.forall_mem_cons.mpr ⟨trivial, List.forall_mem_cons.mpr ⟨trivial, List.forall_mem_cons.mpr ⟨trivial, fun _ h => absurd h List.not_mem_nil⟩⟩⟩⟩⟩⟩
set_option maxRecDepth 100000 in
theorem zq_26_4 : ∀ e ∈ zm_c26_4, zm_okq 26 e.2 := List.forall_mem_cons.mpr ⟨trivial, fun _ h => absurd h List.not_mem_nil⟩
set_option maxRecDepth 100000 in
theorem zq_27_0 : ∀ e ∈ zm_c27_0, zm_okq 27 e.2 := List.forall_mem_cons.mpr ⟨trivial, List.forall_mem_cons.mpr ⟨trivial, List.forall_mem_cons.mpr ⟨trivial, List.forall_mem_cons.mpr ⟨trivial, List.forall_mem_cons.mpr ⟨trivial, List.forall_mem_cons.mpr ⟨trivial, fun _ h => absurd h List.not_mem_nil⟩⟩⟩⟩⟩⟩
set_option maxRecDepth 100000 in
theorem zq_27_1 : ∀ e ∈ zm_c27_1, zm_okq 27 e.2 := List.forall_mem_cons.mpr ⟨trivial, List.forall_mem_cons.mpr ⟨trivial, List.forall_mem_cons.mpr ⟨trivial, List.forall_mem_cons.mpr ⟨trivial, fun _ h => absurd h List.not_mem_nil⟩⟩⟩⟩
set_option maxRecDepth 100000 in
theorem zq_28_0 : ∀ e ∈ zm_c28_0, zm_okq 28 e.2 := List.forall_mem_cons.mpr ⟨trivial, List.forall_mem_cons.mpr ⟨trivial, List.forall_mem_cons.mpr ⟨trivial, List.forall_mem_cons.mpr ⟨trivial, List.forall_mem_cons.mpr ⟨trivial, List.forall_mem_cons.mpr ⟨trivial, fun _ h => absurd h List.not_mem_nil⟩⟩⟩⟩⟩⟩
set_option maxRecDepth 100000 in
theorem zq_28_1 : ∀ e ∈ zm_c28_1, zm_okq 28 e.2 := List.forall_mem_cons.mpr ⟨trivial, List.forall_mem_cons.mpr ⟨trivial, List.forall_mem_cons.mpr ⟨trivial, List.forall_mem_cons.mpr ⟨trivial, List.forall_mem_cons.mpr ⟨trivial, List.forall_mem_cons.mpr ⟨trivial, fun _ h => absurd h List.not_mem_nil⟩⟩⟩⟩⟩⟩
set_option maxRecDepth 100000 in
theorem zq_28_2 : ∀ e ∈ zm_c28_2, zm_okq 28 e.2 := List.forall_mem_cons.mpr ⟨trivial, List.forall_mem_cons.mpr ⟨trivial, List.forall_mem_cons.mpr ⟨trivial, List.forall_mem_cons.mpr ⟨trivial, List.forall_mem_cons.mpr ⟨trivial, fun _ h => absurd h List.not_mem_nil⟩⟩⟩⟩⟩
set_option maxRecDepth 100000 in
theorem zq_29_0 : ∀ e ∈ zm_c29_0, zm_okq 29 e.2 := List.forall_mem_cons.mpr ⟨trivial, List.forall_mem_cons.mpr ⟨trivial, List.forall_mem_cons.mpr ⟨trivial, List.forall_mem_cons.mpr ⟨trivial, List.forall_mem_cons.mpr ⟨trivial, List.forall_mem_cons.mpr ⟨trivial, fun _ h => absurd h List.not_mem_nil⟩⟩⟩⟩⟩⟩
set_option maxRecDepth 100000 in
theorem zq_29_1 : ∀ e ∈ zm_c29_1, zm_okq 29 e.2 := List.forall_mem_cons.mpr ⟨trivial, List.forall_mem_cons.mpr ⟨trivial, List.forall_mem_cons.mpr ⟨trivial, List.forall_mem_cons.mpr ⟨trivial, fun _ h => absurd h List.not_mem_nil⟩⟩⟩⟩
set_option maxRecDepth 100000 in
theorem zq_30_0 : ∀ e ∈ zm_c30_0, zm_okq 30 e.2 := List.forall_mem_cons.mpr ⟨trivial, List.forall_mem_cons.mpr ⟨trivial, List.forall_mem_cons.mpr ⟨trivial, List.forall_mem_cons.mpr ⟨⟨_, _, _, rfl, rfl, zm_f7.1, zm_f7.2.1, zw_354, zw_355, zw_15⟩, List.forall_mem_cons.mpr ⟨trivial, List.forall_mem_cons.mpr ⟨trivial, fun _ h => absurd h List.not_mem_nil⟩⟩⟩⟩⟩⟩
set_option maxRecDepth 100000 in
theorem zq_30_1 : ∀ e ∈ zm_c30_1, zm_okq 30 e.2 := List.forall_mem_cons.mpr ⟨trivial, List.forall_mem_cons.mpr ⟨trivial, List.forall_mem_cons.mpr ⟨trivial, List.forall_mem_cons.mpr ⟨trivial, List.forall_mem_cons.mpr ⟨trivial, List.forall_mem_cons.mpr ⟨trivial, fun _ h => absurd h List.not_mem_nil⟩⟩⟩⟩⟩⟩
set_option maxRecDepth 100000 in
theorem zq_30_2 : ∀ e ∈ zm_c30_2, zm_okq 30 e.2 := List.forall_mem_cons.mpr ⟨trivial, List.forall_mem_cons.mpr ⟨trivial, List.forall_mem_cons.mpr ⟨trivial, List.forall_mem_cons.mpr ⟨trivial, List.forall_mem_cons.mpr ⟨trivial, List.forall_mem_cons.mpr ⟨⟨_, _, _, rfl, rfl, zm_f7.1, zm_f7.2.1, zw_354, zw_355, zw_15⟩, fun _ h => absurd h List.not_mem_nil⟩⟩⟩⟩⟩⟩
set_option maxRecDepth 100000 in
theorem zq_30_3 : ∀ e ∈ zm_c30_3, zm_okq 30 e.2 := List.forall_mem_cons.mpr ⟨trivial, List.forall_mem_cons.mpr ⟨trivial, List.forall_mem_cons.mpr ⟨trivial, List.forall_mem_cons.mpr ⟨trivial, List.forall_mem_cons.mpr ⟨trivial, List.forall_mem_cons.mpr ⟨trivial, fun _ h => absurd h List.not_mem_nil⟩⟩⟩⟩⟩⟩
set_option maxRecDepth 100000 in
theorem zq_30_4 : ∀ e ∈ zm_c30_4, zm_okq 30 e.2 := List.forall_mem_cons.mpr ⟨trivial, List.forall_mem_cons.mpr ⟨trivial, List.forall_mem_cons.mpr ⟨trivial, List.forall_mem_cons.mpr ⟨trivial, List.forall_mem_cons.mpr ⟨trivial, List.forall_mem_cons.mpr ⟨trivial, fun _ h => absurd h List.not_mem_nil⟩⟩⟩⟩⟩⟩
set_option maxRecDepth 100000 in
theorem zq_30_5 : ∀ e ∈ zm_c30_5, zm_okq 30 e.2 := List.forall_mem_cons.mpr ⟨trivial, List.forall_mem_cons.mpr ⟨trivial, List.forall_mem_cons.mpr ⟨trivial, List.forall_mem_cons.mpr ⟨trivial, List.forall_mem_cons.mpr ⟨⟨_, _, _, rfl, rfl, zm_f7.1, zm_f7.2.1, zw_354, zw_355, zw_15⟩, List.forall_mem_cons.mpr ⟨trivial, fun _ h => absurd h List.not_mem_nil⟩⟩⟩⟩⟩⟩
set_option maxRecDepth 100000 in
theorem zq_30_6 : ∀ e ∈ zm_c30_6, zm_okq 30 e.2 := List.forall_mem_cons.mpr ⟨trivial, List.forall_mem_cons.mpr ⟨trivial, List.forall_mem_cons.mpr ⟨trivial, List.forall_mem_cons.mpr ⟨trivial, List.forall_mem_cons.mpr ⟨trivial, List.forall_mem_cons.mpr ⟨trivial, fun _ h => absurd h List.not_mem_nil⟩⟩⟩⟩⟩⟩
set_option maxRecDepth 100000 in
theorem zq_30_7 : ∀ e ∈ zm_c30_7, zm_okq 30 e.2 := List.forall_mem_cons.mpr ⟨trivial, List.forall_mem_cons.mpr ⟨⟨_, _, _, rfl, rfl, zm_f7.1, zm_f7.2.1, zw_354, zw_355, zw_15⟩, List.forall_mem_cons.mpr ⟨trivial, List.forall_mem_cons.mpr ⟨trivial, List.forall_mem_cons.mpr ⟨trivial, List.forall_mem_cons.mpr ⟨trivial, fun _ h => absurd h List.not_mem_nil⟩⟩⟩⟩⟩⟩
set_option maxRecDepth 100000 in
theorem zq_30_8 : ∀ e ∈ zm_c30_8, zm_okq 30 e.2 := List.forall_mem_cons.mpr ⟨trivial, List.forall_mem_cons.mpr ⟨trivial, List.forall_mem_cons.mpr ⟨trivial, List.forall_mem_cons.mpr ⟨trivial, fun _ h => absurd h List.not_mem_nil⟩⟩⟩⟩
set_option maxRecDepth 100000 in
theorem zq_31_0 : ∀ e ∈ zm_c31_0, zm_okq 31 e.2 := List.forall_mem_cons.mpr ⟨trivial, List.forall_mem_cons.mpr ⟨trivial, List.forall_mem_cons.mpr ⟨trivial, List.forall_mem_cons.mpr ⟨trivial, List.forall_mem_cons.mpr ⟨⟨⟨_, _, _, rfl, by decide, zm_f7.1, zm_f7.2.1, zm_f7.2.2, Or.inl ⟨_, zw_360, Or.inl rfl⟩⟩, zm_okw_f rfl rfl rfl zw_360⟩, List.forall_mem_cons.mpr ⟨trivial, fun _ h => absurd h List.not_mem_nil⟩⟩⟩⟩⟩⟩
set_option maxRecDepth 100000 in
theorem zq_31_1 : ∀ e ∈ zm_c31_1, zm_okq 31 e.2 := List.forall_mem_cons.mpr ⟨trivial, List.forall_mem_cons.mpr ⟨⟨⟨_, _, _, rfl, by decide, zm_f7.1, zm_f7.2.1, zm_f7.2.2, Or.inl ⟨_, zw_362, Or.inl rfl⟩⟩, zm_okw_f rfl rfl rfl zw_362⟩, List.forall_mem_cons.mpr ⟨trivial, List.forall_mem_cons.mpr ⟨trivial, List.forall_mem_cons.mpr ⟨⟨⟨_, _, _, rfl, by decide, zm_f7.1, zm_f7.2.1, zm_f7.2.2, Or.inl ⟨_, zw_364, Or.inl rfl⟩⟩, zm_okw_f rfl rfl rfl zw_364⟩, List.forall_mem_cons.mpr ⟨trivial, fun _ h => absurd h List.not_mem_nil⟩⟩⟩⟩⟩⟩
set_option maxRecDepth 100000 in
theorem zq_31_2 : ∀ e ∈ zm_c31_2, zm_okq 31 e.2 := List.forall_mem_cons.mpr ⟨trivial, List.forall_mem_cons.mpr ⟨⟨⟨_, _, _, rfl, by decide, zm_f7.1, zm_f7.2.1, zm_f7.2.2, Or.inl ⟨_, zw_366, Or.inl rfl⟩⟩, zm_okw_f rfl rfl rfl zw_366⟩, List.forall_mem_cons.mpr ⟨trivial, List.forall_mem_cons.mpr ⟨trivial, List.forall_mem_cons.mpr ⟨⟨⟨_, _, _, rfl, by decide, zm_f7.1, zm_f7.2.1, zm_f7.2.2, Or.inl ⟨_, zw_368, Or.inl rfl⟩⟩, zm_okw_f rfl rfl rfl zw_368⟩, List.forall_mem_cons.mpr ⟨trivial, fun _ h => absurd h List.not_mem_nil⟩⟩⟩⟩⟩⟩
set_option maxRecDepth 100000 in
theorem zq_32_0 : ∀ e ∈ zm_c32_0, zm_okq 32 e.2 := List.forall_mem_cons.mpr ⟨trivial, List.forall_mem_cons.mpr ⟨trivial, List.forall_mem_cons.mpr ⟨trivial, List.forall_mem_cons.mpr ⟨trivial, List.forall_mem_cons.mpr ⟨⟨⟨_, _, _, rfl, by decide, zm_f6.1, zm_f6.2.1, zm_f6.2.2, Or.inl ⟨_, zw_385, Or.inl rfl⟩⟩, zm_okw_f rfl rfl rfl zw_385⟩, List.forall_mem_cons.mpr ⟨trivial, fun _ h => absurd h List.not_mem_nil⟩⟩⟩⟩⟩⟩
set_option maxRecDepth 100000 in
theorem zq_32_1 : ∀ e ∈ zm_c32_1, zm_okq 32 e.2 := List.forall_mem_cons.mpr ⟨trivial, List.forall_mem_cons.mpr ⟨⟨⟨_, _, _, rfl, by decide, zm_f6.1, zm_f6.2.1, zm_f6.2.2, Or.inl ⟨_, zw_387, Or.inl rfl⟩⟩, zm_okw_f rfl rfl rfl zw_387⟩, List.forall_mem_cons.mpr ⟨trivial, List.forall_mem_cons.mpr ⟨trivial, List.forall_mem_cons.mpr ⟨⟨⟨_, _, _, rfl, by decide, zm_f6.1, zm_f6.2.1, zm_f6.2.2, Or.inl ⟨_, zw_389, Or.inl rfl⟩⟩, zm_okw_f rfl rfl rfl zw_389⟩, List.forall_mem_cons.mpr ⟨trivial, fun _ h => absurd h List.not_mem_nil⟩⟩⟩⟩⟩⟩
set_option maxRecDepth 100000 in
theorem zq_33_0 : ∀ e ∈ zm_c33_0, zm_okq 33 e.2 := List.forall_mem_cons.mpr ⟨trivial, List.forall_mem_cons.mpr ⟨trivial, List.forall_mem_cons.mpr ⟨trivial, List.forall_mem_cons.mpr ⟨trivial, List.forall_mem_cons.mpr ⟨trivial, List.forall_mem_cons.mpr ⟨trivial, fun _ h => absurd h List.not_mem_nil⟩⟩⟩⟩⟩⟩
set_option maxRecDepth 100000 in
theorem zq_33_1 : ∀ e ∈ zm_c33_1, zm_okq 33 e.2 := List.forall_mem_cons.mpr ⟨trivial, List.forall_mem_cons.mpr ⟨trivial, List.forall_mem_cons.mpr ⟨trivial, List.forall_mem_cons.mpr ⟨trivial, List.forall_mem_cons.mpr ⟨trivial, List.forall_mem_cons.mpr ⟨trivial, fun _ h => absurd h List.not_mem_nil⟩⟩⟩⟩⟩⟩
set_option maxRecDepth 100000 in
theorem zq_33_2 : ∀ e ∈ zm_c33_2, zm_okq 33 e.2 := List.forall_mem_cons.mpr ⟨trivial, List.forall_mem_cons.mpr ⟨trivial, List.forall_mem_cons.mpr ⟨trivial, List.forall_mem_cons.mpr ⟨trivial, List.forall_mem_cons.mpr ⟨trivial, List.forall_mem_cons.mpr ⟨trivial, fun _ h => absurd h List.not_mem_nil⟩⟩⟩⟩⟩⟩
set_option maxRecDepth 100000 in
theorem zq_33_3 : ∀ e ∈ zm_c33_3, zm_okq 33 e.2 := List.forall_mem_cons.mpr ⟨trivial, List.forall_mem_cons.mpr ⟨trivial, List.forall_mem_cons.mpr ⟨trivial, List.forall_mem_cons.mpr ⟨trivial, List.forall_mem_cons.mpr ⟨trivial, List.forall_mem_cons.mpr ⟨trivial, fun _ h => absurd h List.not_mem_nil⟩⟩⟩⟩⟩⟩
set_option maxRecDepth 100000 in
theorem zq_34_0 : ∀ e ∈ zm_c34_0, zm_okq 34 e.2 := List.forall_mem_cons.mpr ⟨trivial, List.forall_mem_cons.mpr ⟨⟨_, _, _, rfl, by decide, zm_f0.1, zm_f0.2.1, zm_f0.2.2, Or.inl ⟨_, zw_153, Or.inl rfl⟩⟩, List.forall_mem_cons.mpr ⟨trivial, List.forall_mem_cons.mpr ⟨trivial, List.forall_mem_cons.mpr ⟨trivial, List.forall_mem_cons.mpr ⟨trivial, fun _ h => absurd h List.not_mem_nil⟩⟩⟩⟩⟩⟩
set_option maxRecDepth 100000 in
theorem zq_34_1 : ∀ e ∈ zm_c34_1, zm_okq 34 e.2 := List.forall_mem_cons.mpr ⟨⟨⟨_, _, _, rfl, by decide, zm_f0.1, zm_f0.2.1, zm_f0.2.2, Or.inl ⟨_, zw_156, Or.inl rfl⟩⟩, zm_okw_n rfl rfl⟩, List.forall_mem_cons.mpr ⟨trivial, List.forall_mem_cons.mpr ⟨⟨_, _, _, rfl, by decide, zm_f0.1, zm_f0.2.1, zm_f0.2.2, Or.inl ⟨_, zw_154, Or.inl rfl⟩⟩, List.forall_mem_cons.mpr ⟨trivial, List.forall_mem_cons.mpr ⟨trivial, List.forall_mem_cons.mpr ⟨trivial, fun _ h => absurd h List.not_mem_nil⟩⟩⟩⟩⟩⟩
set_option maxRecDepth 100000 in
theorem zq_34_2 : ∀ e ∈ zm_c34_2, zm_okq 34 e.2 := List.forall_mem_cons.mpr ⟨⟨⟨_, _, _, rfl, by decide, zm_f0.1, zm_f0.2.1, zm_f0.2.2, Or.inl ⟨_, zw_157, Or.inl rfl⟩⟩, zm_okw_n rfl rfl⟩, List.forall_mem_cons.mpr ⟨trivial, List.forall_mem_cons.mpr ⟨trivial, List.forall_mem_cons.mpr ⟨⟨⟨_, _, _, rfl, by decide, zm_f0.1, zm_f0.2.1, zm_f0.2.2, Or.inl ⟨_, zw_161, Or.inl rfl⟩⟩, zm_okw_n rfl rfl⟩, List.forall_mem_cons.mpr ⟨trivial, List.forall_mem_cons.mpr ⟨trivial, fun _ h => absurd h List.not_mem_nil⟩⟩⟩⟩⟩⟩
set_option maxRecDepth 100000 in
theorem zq_34_3 : ∀ e ∈ zm_c34_3, zm_okq 34 e.2 := List.forall_mem_cons.mpr ⟨trivial, List.forall_mem_cons.mpr ⟨trivial, List.forall_mem_cons.mpr ⟨trivial, List.forall_mem_cons.mpr ⟨trivial, List.forall_mem_cons.mpr ⟨⟨⟨_, _, _, rfl, by decide, zm_f0.1, zm_f0.2.1, zm_f0.2.2, Or.inl ⟨_, zw_156, Or.inl rfl⟩⟩, zm_okw_n rfl rfl⟩, List.forall_mem_cons.mpr ⟨trivial, fun _ h => absurd h List.not_mem_nil⟩⟩⟩⟩⟩⟩
set_option maxRecDepth 100000 in
theorem zq_34_4 : ∀ e ∈ zm_c34_4, zm_okq 34 e.2 := List.forall_mem_cons.mpr ⟨⟨_, _, _, rfl, by decide, zm_f0.1, zm_f0.2.1, zm_f0.2.2, Or.inl ⟨_, zw_156, Or.inl rfl⟩⟩, List.forall_mem_cons.mpr ⟨⟨_, _, _, rfl, by decide, zm_f3.1, zm_f3.2.1, zm_f3.2.2, Or.inl ⟨_, zw_82, Or.inl rfl⟩⟩, List.forall_mem_cons.mpr ⟨trivial, fun _ h => absurd h List.not_mem_nil⟩⟩⟩
set_option maxRecDepth 100000 in
theorem zq_35_0 : ∀ e ∈ zm_c35_0, zm_okq 35 e.2 := List.forall_mem_cons.mpr ⟨trivial, List.forall_mem_cons.mpr ⟨trivial, List.forall_mem_cons.mpr ⟨trivial, List.forall_mem_cons.mpr ⟨trivial, List.forall_mem_cons.mpr ⟨trivial, fun _ h => absurd h List.not_mem_nil⟩⟩⟩⟩⟩
set_option maxRecDepth 100000 in
theorem zq_36_0 : ∀ e ∈ zm_c36_0, zm_okq 36 e.2 := List.forall_mem_cons.mpr ⟨trivial, List.forall_mem_cons.mpr ⟨trivial, List.forall_mem_cons.mpr ⟨⟨⟨_, _, _, rfl, by decide, zm_f2.1, zm_f2.2.1, zm_f2.2.2, Or.inl ⟨_, zw_133, Or.inl rfl⟩⟩, zm_okw_n rfl rfl⟩, List.forall_mem_cons.mpr ⟨trivial, List.forall_mem_cons.mpr ⟨trivial, List.forall_mem_cons.mpr ⟨⟨⟨_, _, _, rfl, by decide, zm_f2.1, zm_f2.2.1, zm_f2.2.2, Or.inl ⟨_, zw_134, Or.inl rfl⟩⟩, zm_okw_n rfl rfl⟩, fun _ h => absurd h List.not_mem_nil⟩⟩⟩⟩⟩⟩
set_option maxRecDepth 100000 in
theorem zq_36_1 : ∀ e ∈ zm_c36_1, zm_okq 36 e.2 := List.forall_mem_cons.mpr ⟨trivial, List.forall_mem_cons.mpr ⟨trivial, List.forall_mem_cons.mpr ⟨⟨⟨_, _, _, rfl, by decide, zm_f2.1, zm_f2.2.1, zm_f2.2.2, Or.inl ⟨_, zw_135, Or.inl rfl⟩⟩, zm_okw_n rfl rfl⟩, List.forall_mem_cons.mpr ⟨trivial, fun _ h => absurd h List.not_mem_nil⟩⟩⟩⟩
set_option maxRecDepth 100000 in
theorem zq_37_0 : ∀ e ∈ zm_c37_0, zm_okq 37 e.2 := List.forall_mem_cons.mpr ⟨trivial, List.forall_mem_cons.mpr ⟨trivial, List.forall_mem_cons.mpr ⟨trivial, List.forall_mem_cons.mpr ⟨trivial, List.forall_mem_cons.mpr ⟨trivial, List.forall_mem_cons.mpr ⟨⟨_, _, _, rfl, by decide, zm_f0.1, zm_f0.2.1, zm_f0.2.2, Or.inl ⟨_, zw_161, Or.inl rfl⟩⟩, fun _ h => absurd h List.not_mem_nil⟩⟩⟩⟩⟩⟩
set_option maxRecDepth 100000 in
theorem zq_37_1 : ∀ e ∈ zm_c37_1, zm_okq 37 e.2 := List.forall_mem_cons.mpr ⟨trivial, List.forall_mem_cons.mpr ⟨trivial, List.forall_mem_cons.mpr ⟨⟨⟨_, _, _, rfl, by decide, zm_f0.1, zm_f0.2.1, zm_f0.2.2, Or.inl ⟨_, zw_161, Or.inl rfl⟩⟩, zm_okw_n rfl rfl⟩, List.forall_mem_cons.mpr ⟨trivial, List.forall_mem_cons.mpr ⟨⟨_, _, _, rfl, by decide, zm_f7.1, zm_f7.2.1, zm_f7.2.2, Or.inl ⟨_, zw_361, Or.inl rfl⟩⟩, List.forall_mem_cons.mpr ⟨trivial, fun _ h => absurd h List.not_mem_nil⟩⟩⟩⟩⟩⟩
set_option maxRecDepth 100000 in
theorem zq_37_2 : ∀ e ∈ zm_c37_2, zm_okq 37 e.2 := List.forall_mem_cons.mpr ⟨trivial, List.forall_mem_cons.mpr ⟨⟨_, _, _, rfl, by decide, zm_f0.1, zm_f0.2.1, zm_f0.2.2, Or.inl ⟨_, zw_154, Or.inl rfl⟩⟩, List.forall_mem_cons.mpr ⟨trivial, List.forall_mem_cons.mpr ⟨⟨_, _, _, rfl, by decide, zm_f7.1, zm_f7.2.1, zm_f7.2.2, Or.inl ⟨_, zw_363, Or.inl rfl⟩⟩, List.forall_mem_cons.mpr ⟨trivial, List.forall_mem_cons.mpr ⟨trivial, fun _ h => absurd h List.not_mem_nil⟩⟩⟩⟩⟩⟩
set_option maxRecDepth 100000 in
theorem zq_37_3 : ∀ e ∈ zm_c37_3, zm_okq 37 e.2 := List.forall_mem_cons.mpr ⟨trivial, List.forall_mem_cons.mpr ⟨⟨_, _, _, rfl, by decide, zm_f0.1, zm_f0.2.1, zm_f0.2.2, Or.inl ⟨_, zw_154, Or.inl rfl⟩⟩, List.forall_mem_cons.mpr ⟨⟨_, _, _, rfl, by decide, zm_f2.1, zm_f2.2.1, zm_f2.2.2, Or.inl ⟨_, zw_129, Or.inl rfl⟩⟩, List.forall_mem_cons.mpr ⟨trivial, List.forall_mem_cons.mpr ⟨trivial, List.forall_mem_cons.mpr ⟨trivial, fun _ h => absurd h List.not_mem_nil⟩⟩⟩⟩⟩⟩
set_option maxRecDepth 100000 in
theorem zq_37_4 : ∀ e ∈ zm_c37_4, zm_okq 37 e.2 := List.forall_mem_cons.mpr ⟨trivial, List.forall_mem_cons.mpr ⟨⟨_, _, _, rfl, by decide, zm_f7.1, zm_f7.2.1, zm_f7.2.2, Or.inl ⟨_, zw_363, Or.inl rfl⟩⟩, List.forall_mem_cons.mpr ⟨trivial, List.forall_mem_cons.mpr ⟨trivial, List.forall_mem_cons.mpr ⟨trivial, List.forall_mem_cons.mpr ⟨trivial, fun _ h => absurd h List.not_mem_nil⟩⟩⟩⟩⟩⟩
set_option maxRecDepth 100000 in
theorem zq_37_5 : ∀ e ∈ zm_c37_5, zm_okq 37 e.2 := List.forall_mem_cons.mpr ⟨trivial, List.forall_mem_cons.mpr ⟨trivial, List.forall_mem_cons.mpr ⟨⟨_, _, _, rfl, by decide, zm_f7.1, zm_f7.2.1, zm_f7.2.2, Or.inl ⟨_, zw_363, Or.inl rfl⟩⟩, List.forall_mem_cons.mpr ⟨trivial, List.forall_mem_cons.mpr ⟨trivial, List.forall_mem_cons.mpr ⟨trivial, fun _ h => absurd h List.not_mem_nil⟩⟩⟩⟩⟩⟩
set_option maxRecDepth 100000 in
theorem zq_37_6 : ∀ e ∈ zm_c37_6, zm_okq 37 e.2 := List.forall_mem_cons.mpr ⟨trivial, List.forall_mem_cons.mpr ⟨⟨_, _, _, rfl, by decide, zm_f0.1, zm_f0.2.1, zm_f0.2.2, Or.inl ⟨_, zw_154, Or.inl rfl⟩⟩, List.forall_mem_cons.mpr ⟨trivial, List.forall_mem_cons.mpr ⟨trivial, List.forall_mem_cons.mpr ⟨⟨_, _, _, rfl, by decide, zm_f7.1, zm_f7.2.1, zm_f7.2.2, Or.inl ⟨_, zw_365, Or.inl rfl⟩⟩, List.forall_mem_cons.mpr ⟨trivial, fun _ h => absurd h List.not_mem_nil⟩⟩⟩⟩⟩⟩
set_option maxRecDepth 100000 in
theorem zq_37_7 : ∀ e ∈ zm_c37_7, zm_okq 37 e.2 := List.forall_mem_cons.mpr ⟨trivial, List.forall_mem_cons.mpr ⟨trivial, List.forall_mem_cons.mpr ⟨trivial, List.forall_mem_cons.mpr ⟨⟨_, _, _, rfl, by decide, zm_f7.1, zm_f7.2.1, zm_f7.2.2, Or.inl ⟨_, zw_367, Or.inl rfl⟩⟩, List.forall_mem_cons.mpr ⟨trivial, List.forall_mem_cons.mpr ⟨trivial, fun _ h => absurd h List.not_mem_nil⟩⟩⟩⟩⟩⟩
set_option maxRecDepth 100000 in
theorem zq_37_8 : ∀ e ∈ zm_c37_8, zm_okq 37 e.2 := List.forall_mem_cons.mpr ⟨trivial, List.forall_mem_cons.mpr ⟨trivial, List.forall_mem_cons.mpr ⟨trivial, List.forall_mem_cons.mpr ⟨trivial, List.forall_mem_cons.mpr ⟨trivial, List.forall_mem_cons.mpr ⟨trivial, fun _ h => absurd h List.not_mem_nil⟩⟩⟩⟩⟩⟩
set_option maxRecDepth 100000 in
theorem zq_37_9 : ∀ e ∈ zm_c37_9, zm_okq 37 e.2 := List.forall_mem_cons.mpr ⟨trivial, List.forall_mem_cons.mpr ⟨trivial, List.forall_mem_cons.mpr ⟨trivial, List.forall_mem_cons.mpr ⟨trivial, List.forall_mem_cons.mpr ⟨trivial, List.forall_mem_cons.mpr ⟨⟨_, _, _, rfl, by decide, zm_f7.1, zm_f7.2.1, zm_f7.2.2, Or.inl ⟨_, zw_365, Or.inl rfl⟩⟩, fun _ h => absurd h List.not_mem_nil⟩⟩⟩⟩⟩⟩
set_option maxRecDepth 100000 in
theorem zq_37_10 : ∀ e ∈ zm_c37_10, zm_okq 37 e.2 := List.forall_mem_cons.mpr ⟨trivial, List.forall_mem_cons.mpr ⟨trivial, List.forall_mem_cons.mpr ⟨trivial, List.forall_mem_cons.mpr ⟨trivial, List.forall_mem_cons.mpr ⟨trivial, List.forall_mem_cons.mpr ⟨trivial, fun _ h => absurd h List.not_mem_nil⟩⟩⟩⟩⟩⟩
set_option maxRecDepth 100000 in
theorem zq_37_11 : ∀ e ∈ zm_c37_11, zm_okq 37 e.2 := List.forall_mem_cons.mpr ⟨⟨_, _, _, rfl, by decide, zm_f3.1, zm_f3.2.1, zm_f3.2.2, Or.inl ⟨_, zw_86, Or.inl rfl⟩⟩, List.forall_mem_cons.mpr ⟨trivial, List.forall_mem_cons.mpr ⟨trivial, List.forall_mem_cons.mpr ⟨trivial, List.forall_mem_cons.mpr ⟨trivial, List.forall_mem_cons.mpr ⟨trivial, fun _ h => absurd h List.not_mem_nil⟩⟩⟩⟩⟩⟩
set_option maxRecDepth 100000 in
theorem zq_37_12 : ∀ e ∈ zm_c37_12, zm_okq 37 e.2 := List.forall_mem_cons.mpr ⟨trivial, List.forall_mem_cons.mpr ⟨⟨_, _, _, rfl, by decide, zm_f7.1, zm_f7.2.1, zm_f7.2.2, Or.inl ⟨_, zw_365, Or.inl rfl⟩⟩, List.forall_mem_cons.mpr ⟨trivial, List.forall_mem_cons.mpr ⟨trivial, List.forall_mem_cons.mpr ⟨trivial, List.forall_mem_cons.mpr ⟨trivial, fun _ h => absurd h List.not_mem_nil⟩⟩⟩⟩⟩⟩
set_option maxRecDepth 100000 in
theorem zq_37_13 : ∀ e ∈ zm_c37_13, zm_okq 37 e.2 := List.forall_mem_cons.mpr ⟨trivial, List.forall_mem_cons.mpr ⟨trivial, List.forall_mem_cons.mpr ⟨⟨_, _, _, rfl, by decide, zm_f3.1, zm_f3.2.1, zm_f3.2.2, Or.inl ⟨_, zw_88, Or.inl rfl⟩⟩, List.forall_mem_cons.mpr ⟨trivial, List.forall_mem_cons.mpr ⟨trivial, List.forall_mem_cons.mpr ⟨trivial, fun _ h => absurd h List.not_mem_nil⟩⟩⟩⟩⟩⟩
set_option maxRecDepth 100000 in
theorem zq_37_14 : ∀ e ∈ zm_c37_14, zm_okq 37 e.2 := List.forall_mem_cons.mpr ⟨trivial, List.forall_mem_cons.mpr ⟨⟨_, _, _, rfl, by decide, zm_f0.1, zm_f0.2.1, zm_f0.2.2, Or.inl ⟨_, zw_154, Or.inl rfl⟩⟩, List.forall_mem_cons.mpr ⟨trivial, List.forall_mem_cons.mpr ⟨trivial, List.forall_mem_cons.mpr ⟨⟨_, _, _, rfl, by decide, zm_f7.1, zm_f7.2.1, zm_f7.2.2, Or.inl ⟨_, zw_365, Or.inl rfl⟩⟩, List.forall_mem_cons.mpr ⟨trivial, fun _ h => absurd h List.not_mem_nil⟩⟩⟩⟩⟩⟩
set_option maxRecDepth 100000 in
theorem zq_37_15 : ∀ e ∈ zm_c37_15, zm_okq 37 e.2 := List.forall_mem_cons.mpr ⟨trivial, List.forall_mem_cons.mpr ⟨trivial, List.forall_mem_cons.mpr ⟨trivial, List.forall_mem_cons.mpr ⟨trivial, List.forall_mem_cons.mpr ⟨trivial, List.forall_mem_cons.mpr ⟨trivial, fun _ h => absurd h List.not_mem_nil⟩⟩⟩⟩⟩⟩
set_option maxRecDepth 100000 in
theorem zq_37_16 : ∀ e ∈ zm_c37_16, zm_okq 37 e.2 := List.forall_mem_cons.mpr ⟨trivial, List.forall_mem_cons.mpr ⟨trivial, List.forall_mem_cons.mpr ⟨trivial, List.forall_mem_cons.mpr ⟨trivial, List.forall_mem_cons.mpr ⟨trivial, List.forall_mem_cons.mpr ⟨trivial, fun _ h => absurd h List.not_mem_nil⟩⟩⟩⟩⟩⟩
set_option maxRecDepth 100000 in
theorem zq_37_17 : ∀ e ∈ zm_c37_17, zm_okq 37 e.2 := List.forall_mem_cons.mpr ⟨trivial, List.forall_mem_cons.mpr ⟨trivial, List.forall_mem_cons.mpr ⟨trivial, List.forall_mem_cons.mpr ⟨trivial, List.forall_mem_cons.mpr ⟨trivial, List.forall_mem_cons.mpr ⟨trivial, fun _ h => absurd h List.not_mem_nil⟩⟩⟩⟩⟩⟩
set_option maxRecDepth 100000 in
theorem zq_37_18 : ∀ e ∈ zm_c37_18, zm_okq 37 e.2 := List.forall_mem_cons.mpr ⟨trivial, fun _ h => absurd h List.not_mem_nil⟩
set_option maxRecDepth 100000 in
theorem zq_38_0 : ∀ e ∈ zm_c38_0, zm_okq 38 e.2 := List.forall_mem_cons.mpr ⟨trivial, List.forall_mem_cons.mpr ⟨trivial, List.forall_mem_cons.mpr ⟨trivial, List.forall_mem_cons.mpr ⟨trivial, List.forall_mem_cons.mpr ⟨trivial, List.forall_mem_cons.mpr ⟨trivial, fun _ h => absurd h List.not_mem_nil⟩⟩⟩⟩⟩⟩
set_option maxRecDepth 100000 in
theorem zq_38_1 : ∀ e ∈ zm_c38_1, zm_okq 38 e.2 := List.forall_mem_cons.mpr ⟨⟨⟨_, _, _, rfl, by decide, zm_f3.1, zm_f3.2.1, zm_f3.2.2, Or.inl ⟨_, zw_83, Or.inl rfl⟩⟩, zm_okw_n rfl rfl⟩, List.forall_mem_cons.mpr ⟨trivial, List.forall_mem_cons.mpr ⟨trivial, fun _ h => absurd h List.not_mem_nil⟩⟩⟩
set_option maxRecDepth 100000 in
theorem zq_39_0 : ∀ e ∈ zm_c39_0, zm_okq 39 e.2 := List.forall_mem_cons.mpr ⟨trivial, List.forall_mem_cons.mpr ⟨⟨_, _, _, rfl, by decide, zm_f2.1, zm_f2.2.1, zm_f2.2.2, Or.inl ⟨_, zw_133, Or.inl rfl⟩⟩, List.forall_mem_cons.mpr ⟨trivial, List.forall_mem_cons.mpr ⟨⟨_, _, _, rfl, by decide, zm_f2.1, zm_f2.2.1, zm_f2.2.2, Or.inl ⟨_, zw_130, Or.inl rfl⟩⟩, List.forall_mem_cons.mpr ⟨trivial, List.forall_mem_cons.mpr ⟨trivial, fun _ h => absurd h List.not_mem_nil⟩⟩⟩⟩⟩⟩
set_option maxRecDepth 100000 in
theorem zq_39_1 : ∀ e ∈ zm_c39_1, zm_okq 39 e.2 := List.forall_mem_cons.mpr ⟨trivial, List.forall_mem_cons.mpr ⟨⟨_, _, _, rfl, by decide, zm_f2.1, zm_f2.2.1, zm_f2.2.2, Or.inl ⟨_, zw_130, Or.inl rfl⟩⟩, List.forall_mem_cons.mpr ⟨⟨_, _, _, rfl, rfl, zm_f3.1, zm_f3.2.1, zw_75, zw_76, zw_4⟩, List.forall_mem_cons.mpr ⟨trivial, List.forall_mem_cons.mpr ⟨trivial, List.forall_mem_cons.mpr ⟨trivial, fun _ h => absurd h List.not_mem_nil⟩⟩⟩⟩⟩⟩
set_option maxRecDepth 100000 in
theorem zq_39_2 : ∀ e ∈ zm_c39_2, zm_okq 39 e.2 := List.forall_mem_cons.mpr ⟨trivial, List.forall_mem_cons.mpr ⟨trivial, List.forall_mem_cons.mpr ⟨⟨_, _, _, rfl, by decide, zm_f2.1, zm_f2.2.1, zm_f2.2.2, Or.inl ⟨_, zw_130, Or.inl rfl⟩⟩, List.forall_mem_cons.mpr ⟨trivial, List.forall_mem_cons.mpr ⟨⟨_, _, _, rfl, by decide, zm_f2.1, zm_f2.2.1, zm_f2.2.2, Or.inl ⟨_, zw_133, Or.inl rfl⟩⟩, List.forall_mem_cons.mpr ⟨trivial, fun _ h => absurd h List.not_mem_nil⟩⟩⟩⟩⟩⟩
set_option maxRecDepth 100000 in
theorem zq_39_3 : ∀ e ∈ zm_c39_3, zm_okq 39 e.2 := List.forall_mem_cons.mpr ⟨⟨_, _, _, _, zw_75, rfl, Or.inl rfl⟩, List.forall_mem_cons.mpr ⟨trivial, List.forall_mem_cons.mpr ⟨trivial, List.forall_mem_cons.mpr ⟨trivial, List.forall_mem_cons.mpr ⟨⟨_, _, _, rfl, by decide, zm_f2.1, zm_f2.2.1, zm_f2.2.2, Or.inl ⟨_, zw_133, Or.inl rfl⟩⟩, List.forall_mem_cons.mpr ⟨trivial, fun _ h => absurd h List.not_mem_nil⟩⟩⟩⟩⟩⟩
set_option maxRecDepth 100000 in
theorem zq_39_4 : ∀ e ∈ zm_c39_4, zm_okq 39 e.2 := List.forall_mem_cons.mpr ⟨trivial, List.forall_mem_cons.mpr ⟨⟨⟨_, _, _, rfl, by decide, zm_f2.1, zm_f2.2.1, zm_f2.2.2, Or.inl ⟨_, zw_133, Or.inl rfl⟩⟩, zm_okw_n rfl rfl⟩, List.forall_mem_cons.mpr ⟨trivial, List.forall_mem_cons.mpr ⟨trivial, List.forall_mem_cons.mpr ⟨⟨⟨_, _, _, rfl, by decide, zm_f3.1, zm_f3.2.1, zm_f3.2.2, Or.inl ⟨_, zw_81, Or.inl rfl⟩⟩, zm_okw_n rfl rfl⟩, List.forall_mem_cons.mpr ⟨trivial, fun _ h => absurd h List.not_mem_nil⟩⟩⟩⟩⟩⟩
set_option maxRecDepth 100000 in
theorem zq_39_5 : ∀ e ∈ zm_c39_5, zm_okq 39 e.2 := List.forall_mem_cons.mpr ⟨trivial, fun _ h => absurd h List.not_mem_nil⟩
set_option maxRecDepth 100000 in
theorem zq_40_0 : ∀ e ∈ zm_c40_0, zm_okq 40 e.2 := List.forall_mem_cons.mpr ⟨trivial, List.forall_mem_cons.mpr ⟨trivial, List.forall_mem_cons.mpr ⟨trivial, List.forall_mem_cons.mpr ⟨trivial, List.forall_mem_cons.mpr ⟨trivial, List.forall_mem_cons.mpr ⟨⟨_, _, _, rfl, by decide, zm_f9.1, zm_f9.2.1, zm_f9.2.2, Or.inl ⟨_, zw_627, Or.inl rfl⟩⟩, fun _ h => absurd h List.not_mem_nil⟩⟩⟩⟩⟩⟩
set_option maxRecDepth 100000 in
theorem zq_40_1 : ∀ e ∈ zm_c40_1, zm_okq 40 e.2 := List.forall_mem_cons.mpr ⟨trivial, List.forall_mem_cons.mpr ⟨trivial, List.forall_mem_cons.mpr ⟨trivial, List.forall_mem_cons.mpr ⟨trivial, List.forall_mem_cons.mpr ⟨trivial, List.forall_mem_cons.mpr ⟨⟨_, _, _, rfl, by decide, zm_f9.1, zm_f9.2.1, zm_f9.2.2, Or.inl ⟨_, zw_625, Or.inl rfl⟩⟩, fun _ h => absurd h List.not_mem_nil⟩⟩⟩⟩⟩⟩
set_option maxRecDepth 100000 in
theorem zq_40_2 : ∀ e ∈ zm_c40_2, zm_okq 40 e.2 := List.forall_mem_cons.mpr ⟨trivial, List.forall_mem_cons.mpr ⟨trivial, List.forall_mem_cons.mpr ⟨⟨_, _, _, rfl, by decide, zm_f9.1, zm_f9.2.1, zm_f9.2.2, Or.inl ⟨_, zw_623, Or.inl rfl⟩⟩, List.forall_mem_cons.mpr ⟨trivial, List.forall_mem_cons.mpr ⟨trivial, fun _ h => absurd h List.not_mem_nil⟩⟩⟩⟩⟩
set_option maxRecDepth 100000 in
theorem zq_41_0 : ∀ e ∈ zm_c41_0, zm_okq 41 e.2 := List.forall_mem_cons.mpr ⟨trivial, List.forall_mem_cons.mpr ⟨⟨_, _, _, rfl, by decide, zm_f8.1, zm_f8.2.1, zm_f8.2.2, Or.inl ⟨_, zw_576, Or.inl rfl⟩⟩, List.forall_mem_cons.mpr ⟨trivial, List.forall_mem_cons.mpr ⟨trivial, List.forall_mem_cons.mpr ⟨trivial, List.forall_mem_cons.mpr ⟨⟨_, _, _, rfl, by decide, zm_f0.1, zm_f0.2.1, zm_f0.2.2, Or.inl ⟨_, zw_160, Or.inl rfl⟩⟩, fun _ h => absurd h List.not_mem_nil⟩⟩⟩⟩⟩⟩
set_option maxRecDepth 100000 in
theorem zq_41_1 : ∀ e ∈ zm_c41_1, zm_okq 41 e.2 := List.forall_mem_cons.mpr ⟨trivial, List.forall_mem_cons.mpr ⟨trivial, List.forall_mem_cons.mpr ⟨⟨⟨_, _, _, rfl, by decide, zm_f0.1, zm_f0.2.1, zm_f0.2.2, Or.inl ⟨_, zw_160, Or.inl rfl⟩⟩, zm_okw_n rfl rfl⟩, List.forall_mem_cons.mpr ⟨trivial, List.forall_mem_cons.mpr ⟨trivial, List.forall_mem_cons.mpr ⟨trivial, fun _ h => absurd h List.not_mem_nil⟩⟩⟩⟩⟩⟩
set_option maxRecDepth 100000 in
theorem zq_41_2 : ∀ e ∈ zm_c41_2, zm_okq 41 e.2 := List.forall_mem_cons.mpr ⟨trivial, List.forall_mem_cons.mpr ⟨trivial, List.forall_mem_cons.mpr ⟨⟨⟨_, _, _, rfl, by decide, zm_f8.1, zm_f8.2.1, zm_f8.2.2, Or.inl ⟨_, zw_576, Or.inl rfl⟩⟩, zm_okw_n rfl rfl⟩, List.forall_mem_cons.mpr ⟨trivial, List.forall_mem_cons.mpr ⟨trivial, List.forall_mem_cons.mpr ⟨⟨_, _, _, rfl, by decide, zm_f0.1, zm_f0.2.1, zm_f0.2.2, Or.inl ⟨_, zw_159, Or.inl rfl⟩⟩, fun _ h => absurd h List.not_mem_nil⟩⟩⟩⟩⟩⟩
set_option maxRecDepth 100000 in
theorem zq_41_3 : ∀ e ∈ zm_c41_3, zm_okq 41 e.2 := List.forall_mem_cons.mpr ⟨trivial, List.forall_mem_cons.mpr ⟨trivial, List.forall_mem_cons.mpr ⟨⟨⟨_, _, _, rfl, by decide, zm_f0.1, zm_f0.2.1, zm_f0.2.2, Or.inl ⟨_, zw_159, Or.inl rfl⟩⟩, zm_okw_n rfl rfl⟩, List.forall_mem_cons.mpr ⟨trivial, List.forall_mem_cons.mpr ⟨trivial, List.forall_mem_cons.mpr ⟨⟨_, _, _, rfl, by decide, zm_f8.1, zm_f8.2.1, zm_f8.2.2, Or.inl ⟨_, zw_572, Or.inl rfl⟩⟩, fun _ h => absurd h List.not_mem_nil⟩⟩⟩⟩⟩⟩
set_option maxRecDepth 100000 in
theorem zq_41_4 : ∀ e ∈ zm_c41_4, zm_okq 41 e.2 := List.forall_mem_cons.mpr ⟨trivial, List.forall_mem_cons.mpr ⟨⟨_, _, _, rfl, by decide, zm_f8.1, zm_f8.2.1, zm_f8.2.2, Or.inl ⟨_, zw_574, Or.inl rfl⟩⟩, List.forall_mem_cons.mpr ⟨trivial, List.forall_mem_cons.mpr ⟨trivial, List.forall_mem_cons.mpr ⟨trivial, List.forall_mem_cons.mpr ⟨trivial, fun _ h => absurd h List.not_mem_nil⟩⟩⟩⟩⟩⟩
set_option maxRecDepth 100000 in
theorem zq_41_5 : ∀ e ∈ zm_c41_5, zm_okq 41 e.2 := List.forall_mem_cons.mpr ⟨trivial, List.forall_mem_cons.mpr ⟨trivial, List.forall_mem_cons.mpr ⟨trivial, List.forall_mem_cons.mpr ⟨⟨⟨_, _, _, rfl, by decide, zm_f8.1, zm_f8.2.1, zm_f8.2.2, Or.inl ⟨_, zw_578, Or.inl rfl⟩⟩, zm_okw_n rfl rfl⟩, List.forall_mem_cons.mpr ⟨trivial, List.forall_mem_cons.mpr ⟨trivial, fun _ h => absurd h List.not_mem_nil⟩⟩⟩⟩⟩⟩
set_option maxRecDepth 100000 in
theorem zq_42_0 : ∀ e ∈ zm_c42_0, zm_okq 42 e.2 := List.forall_mem_cons.mpr ⟨trivial, List.forall_mem_cons.mpr ⟨⟨_, _, _, rfl, by decide, zm_f8.1, zm_f8.2.1, zm_f8.2.2, Or.inl ⟨_, zw_578, Or.inl rfl⟩⟩, List.forall_mem_cons.mpr ⟨trivial, List.forall_mem_cons.mpr ⟨trivial, List.forall_mem_cons.mpr ⟨⟨_, _, _, rfl, by decide, zm_f8.1, zm_f8.2.1, zm_f8.2.2, Or.inl ⟨_, zw_578, Or.inl rfl⟩⟩, List.forall_mem_cons.mpr ⟨trivial, fun _ h => absurd h List.not_mem_nil⟩⟩⟩⟩⟩⟩
set_option maxRecDepth 100000 in
theorem zq_43_0 : ∀ e ∈ zm_c43_0, zm_okq 43 e.2 := List.forall_mem_cons.mpr ⟨trivial, List.forall_mem_cons.mpr ⟨trivial, List.forall_mem_cons.mpr ⟨trivial, List.forall_mem_cons.mpr ⟨trivial, List.forall_mem_cons.mpr ⟨trivial, List.forall_mem_cons.mpr ⟨⟨_, _, _, rfl, by decide, zm_f6.1, zm_f6.2.1, zm_f6.2.2, Or.inl ⟨_, zw_388, Or.inl rfl⟩⟩, fun _ h => absurd h List.not_mem_nil⟩⟩⟩⟩⟩⟩
set_option maxRecDepth 100000 in
theorem zq_43_1 : ∀ e ∈ zm_c43_1, zm_okq 43 e.2 := List.forall_mem_cons.mpr ⟨trivial, List.forall_mem_cons.mpr ⟨trivial, List.forall_mem_cons.mpr ⟨trivial, List.forall_mem_cons.mpr ⟨trivial, List.forall_mem_cons.mpr ⟨trivial, List.forall_mem_cons.mpr ⟨trivial, fun _ h => absurd h List.not_mem_nil⟩⟩⟩⟩⟩⟩
set_option maxRecDepth 100000 in
theorem zq_43_2 : ∀ e ∈ zm_c43_2, zm_okq 43 e.2 := List.forall_mem_cons.mpr ⟨trivial, List.forall_mem_cons.mpr ⟨trivial, List.forall_mem_cons.mpr ⟨⟨_, _, _, rfl, by decide, zm_f0.1, zm_f0.2.1, zm_f0.2.2, Or.inl ⟨_, zw_154, Or.inl rfl⟩⟩, List.forall_mem_cons.mpr ⟨trivial, List.forall_mem_cons.mpr ⟨trivial, List.forall_mem_cons.mpr ⟨trivial, fun _ h => absurd h List.not_mem_nil⟩⟩⟩⟩⟩⟩
set_option maxRecDepth 100000 in
theorem zq_43_3 : ∀ e ∈ zm_c43_3, zm_okq 43 e.2 := List.forall_mem_cons.mpr ⟨trivial, fun _ h => absurd h List.not_mem_nil⟩
set_option maxRecDepth 100000 in
theorem zq_44_0 : ∀ e ∈ zm_c44_0, zm_okq 44 e.2 := List.forall_mem_cons.mpr ⟨trivial, List.forall_mem_cons.mpr ⟨⟨_, _, _, rfl, by decide, zm_f0.1, zm_f0.2.1, zm_f0.2.2, Or.inl ⟨_, zw_155, Or.inl rfl⟩⟩, List.forall_mem_cons.mpr ⟨trivial, List.forall_mem_cons.mpr ⟨trivial, List.forall_mem_cons.mpr ⟨trivial, List.forall_mem_cons.mpr ⟨trivial, fun _ h => absurd h List.not_mem_nil⟩⟩⟩⟩⟩⟩
set_option maxRecDepth 100000 in
theorem zq_44_1 : ∀ e ∈ zm_c44_1, zm_okq 44 e.2 := List.forall_mem_cons.mpr ⟨trivial, List.forall_mem_cons.mpr ⟨trivial, List.forall_mem_cons.mpr ⟨trivial, fun _ h => absurd h List.not_mem_nil⟩⟩⟩
set_option maxRecDepth 100000 in
theorem zq_45_0 : ∀ e ∈ zm_c45_0, zm_okq 45 e.2 := List.forall_mem_cons.mpr ⟨trivial, List.forall_mem_cons.mpr ⟨⟨_, _, _, rfl, by decide, zm_f0.1, zm_f0.2.1, zm_f0.2.2, Or.inl ⟨_, zw_157, Or.inl rfl⟩⟩, List.forall_mem_cons.mpr ⟨trivial, List.forall_mem_cons.mpr ⟨trivial, List.forall_mem_cons.mpr ⟨trivial, List.forall_mem_cons.mpr ⟨trivial, fun _ h => absurd h List.not_mem_nil⟩⟩⟩⟩⟩⟩
set_option maxRecDepth 100000 in
theorem zq_45_1 : ∀ e ∈ zm_c45_1, zm_okq 45 e.2 := List.forall_mem_cons.mpr ⟨⟨_, _, _, rfl, by decide, zm_f0.1, zm_f0.2.1, zm_f0.2.2, Or.inl ⟨_, zw_157, Or.inl rfl⟩⟩, List.forall_mem_cons.mpr ⟨trivial, List.forall_mem_cons.mpr ⟨trivial, List.forall_mem_cons.mpr ⟨⟨⟨_, _, _, rfl, by decide, zm_f0.1, zm_f0.2.1, zm_f0.2.2, Or.inl ⟨_, zw_157, Or.inl rfl⟩⟩, zm_okw_n rfl rfl⟩, List.forall_mem_cons.mpr ⟨trivial, List.forall_mem_cons.mpr ⟨trivial, fun _ h => absurd h List.not_mem_nil⟩⟩⟩⟩⟩⟩
set_option maxRecDepth 100000 in
theorem zq_45_2 : ∀ e ∈ zm_c45_2, zm_okq 45 e.2 := List.forall_mem_cons.mpr ⟨⟨_, _, _, rfl, by decide, zm_f0.1, zm_f0.2.1, zm_f0.2.2, Or.inl ⟨_, zw_158, Or.inl rfl⟩⟩, List.forall_mem_cons.mpr ⟨trivial, List.forall_mem_cons.mpr ⟨trivial, List.forall_mem_cons.mpr ⟨⟨⟨_, _, _, rfl, by decide, zm_f0.1, zm_f0.2.1, zm_f0.2.2, Or.inl ⟨_, zw_158, Or.inl rfl⟩⟩, zm_okw_n rfl rfl⟩, List.forall_mem_cons.mpr ⟨trivial, List.forall_mem_cons.mpr ⟨trivial, fun _ h => absurd h List.not_mem_nil⟩⟩⟩⟩⟩⟩
set_option maxRecDepth 100000 in
theorem zq_45_3 : ∀ e ∈ zm_c45_3, zm_okq 45 e.2 := List.forall_mem_cons.mpr ⟨⟨_, _, _, rfl, by decide, zm_f6.1, zm_f6.2.1, zm_f6.2.2, Or.inl ⟨_, zw_390, Or.inl rfl⟩⟩, List.forall_mem_cons.mpr ⟨trivial, List.forall_mem_cons.mpr ⟨trivial, List.forall_mem_cons.mpr ⟨trivial, List.forall_mem_cons.mpr ⟨trivial, List.forall_mem_cons.mpr ⟨trivial, fun _ h => absurd h List.not_mem_nil⟩⟩⟩⟩⟩⟩
set_option maxRecDepth 100000 in
theorem zq_45_4 : ∀ e ∈ zm_c45_4, zm_okq 45 e.2 := List.forall_mem_cons.mpr ⟨trivial, fun _ h => absurd h List.not_mem_nil⟩
set_option maxRecDepth 100000 in
theorem zq_46_0 : ∀ e ∈ zm_c46_0, zm_okq 46 e.2 := List.forall_mem_cons.mpr ⟨trivial, List.forall_mem_cons.mpr ⟨trivial, List.forall_mem_cons.mpr ⟨trivial, List.forall_mem_cons.mpr ⟨trivial, List.forall_mem_cons.mpr ⟨trivial, List.forall_mem_cons.mpr ⟨trivial, fun _ h => absurd h List.not_mem_nil⟩⟩⟩⟩⟩⟩
set_option maxRecDepth 100000 in
theorem zq_46_1 : ∀ e ∈ zm_c46_1, zm_okq 46 e.2 := List.forall_mem_cons.mpr ⟨⟨⟨_, _, _, rfl, by decide, zm_f3.1, zm_f3.2.1, zm_f3.2.2, Or.inl ⟨_, zw_83, Or.inl rfl⟩⟩, zm_okw_n rfl rfl⟩, List.forall_mem_cons.mpr ⟨trivial, List.forall_mem_cons.mpr ⟨trivial, List.forall_mem_cons.mpr ⟨⟨⟨_, _, _, rfl, by decide, zm_f3.1, zm_f3.2.1, zm_f3.2.2, Or.inl ⟨_, zw_89, Or.inl rfl⟩⟩, zm_okw_n rfl rfl⟩, List.forall_mem_cons.mpr ⟨trivial, List.forall_mem_cons.mpr ⟨trivial, fun _ h => absurd h List.not_mem_nil⟩⟩⟩⟩⟩⟩
set_option maxRecDepth 100000 in
theorem zq_47_0 : ∀ e ∈ zm_c47_0, zm_okq 47 e.2 := List.forall_mem_cons.mpr ⟨trivial, List.forall_mem_cons.mpr ⟨⟨_, _, _, rfl, by decide, zm_f7.1, zm_f7.2.1, zm_f7.2.2, Or.inl ⟨_, zw_361, Or.inl rfl⟩⟩, List.forall_mem_cons.mpr ⟨trivial, List.forall_mem_cons.mpr ⟨trivial, List.forall_mem_cons.mpr ⟨trivial, List.forall_mem_cons.mpr ⟨trivial, fun _ h => absurd h List.not_mem_nil⟩⟩⟩⟩⟩⟩
set_option maxRecDepth 100000 in
theorem zq_47_1 : ∀ e ∈ zm_c47_1, zm_okq 47 e.2 := List.forall_mem_cons.mpr ⟨⟨_, _, _, rfl, by decide, zm_f7.1, zm_f7.2.1, zm_f7.2.2, Or.inl ⟨_, zw_363, Or.inl rfl⟩⟩, List.forall_mem_cons.mpr ⟨trivial, List.forall_mem_cons.mpr ⟨trivial, List.forall_mem_cons.mpr ⟨trivial, List.forall_mem_cons.mpr ⟨⟨_, _, _, rfl, by decide, zm_f0.1, zm_f0.2.1, zm_f0.2.2, Or.inl ⟨_, zw_154, Or.inl rfl⟩⟩, List.forall_mem_cons.mpr ⟨trivial, fun _ h => absurd h List.not_mem_nil⟩⟩⟩⟩⟩⟩
set_option maxRecDepth 100000 in
theorem zq_47_2 : ∀ e ∈ zm_c47_2, zm_okq 47 e.2 := List.forall_mem_cons.mpr ⟨trivial, List.forall_mem_cons.mpr ⟨trivial, List.forall_mem_cons.mpr ⟨trivial, fun _ h => absurd h List.not_mem_nil⟩⟩⟩
set_option maxRecDepth 100000 in
theorem zq_48_0 : ∀ e ∈ zm_c48_0, zm_okq 48 e.2 := List.forall_mem_cons.mpr ⟨trivial, List.forall_mem_cons.mpr ⟨⟨_, _, _, rfl, by decide, zm_f2.1, zm_f2.2.1, zm_f2.2.2, Or.inl ⟨_, zw_134, Or.inl rfl⟩⟩, List.forall_mem_cons.mpr ⟨trivial, List.forall_mem_cons.mpr ⟨⟨_, _, _, rfl, by decide, zm_f2.1, zm_f2.2.1, zm_f2.2.2, Or.inl ⟨_, zw_131, Or.inl rfl⟩⟩, List.forall_mem_cons.mpr ⟨trivial, List.forall_mem_cons.mpr ⟨trivial, fun _ h => absurd h List.not_mem_nil⟩⟩⟩⟩⟩⟩
set_option maxRecDepth 100000 in
theorem zq_48_1 : ∀ e ∈ zm_c48_1, zm_okq 48 e.2 := List.forall_mem_cons.mpr ⟨trivial, List.forall_mem_cons.mpr ⟨⟨_, _, _, rfl, by decide, zm_f2.1, zm_f2.2.1, zm_f2.2.2, Or.inl ⟨_, zw_131, Or.inl rfl⟩⟩, List.forall_mem_cons.mpr ⟨⟨_, _, _, rfl, rfl, zm_f8.1, zm_f8.2.1, zw_565, zw_566, zw_23⟩, List.forall_mem_cons.mpr ⟨trivial, List.forall_mem_cons.mpr ⟨trivial, List.forall_mem_cons.mpr ⟨trivial, fun _ h => absurd h List.not_mem_nil⟩⟩⟩⟩⟩⟩
set_option maxRecDepth 100000 in
theorem zq_48_2 : ∀ e ∈ zm_c48_2, zm_okq 48 e.2 := List.forall_mem_cons.mpr ⟨trivial, List.forall_mem_cons.mpr ⟨trivial, List.forall_mem_cons.mpr ⟨⟨_, _, _, rfl, by decide, zm_f2.1, zm_f2.2.1, zm_f2.2.2, Or.inl ⟨_, zw_131, Or.inl rfl⟩⟩, List.forall_mem_cons.mpr ⟨trivial, List.forall_mem_cons.mpr ⟨⟨_, _, _, rfl, by decide, zm_f2.1, zm_f2.2.1, zm_f2.2.2, Or.inl ⟨_, zw_134, Or.inl rfl⟩⟩, List.forall_mem_cons.mpr ⟨trivial, fun _ h => absurd h List.not_mem_nil⟩⟩⟩⟩⟩⟩
set_option maxRecDepth 100000 in
theorem zq_48_3 : ∀ e ∈ zm_c48_3, zm_okq 48 e.2 := List.forall_mem_cons.mpr ⟨⟨_, _, _, _, zw_565, rfl, Or.inl rfl⟩, List.forall_mem_cons.mpr ⟨trivial, List.forall_mem_cons.mpr ⟨trivial, List.forall_mem_cons.mpr ⟨trivial, List.forall_mem_cons.mpr ⟨⟨_, _, _, rfl, by decide, zm_f2.1, zm_f2.2.1, zm_f2.2.2, Or.inl ⟨_, zw_134, Or.inl rfl⟩⟩, List.forall_mem_cons.mpr ⟨trivial, fun _ h => absurd h List.not_mem_nil⟩⟩⟩⟩⟩⟩
set_option maxRecDepth 100000 in
theorem zq_48_4 : ∀ e ∈ zm_c48_4, zm_okq 48 e.2 := List.forall_mem_cons.mpr ⟨trivial, List.forall_mem_cons.mpr ⟨⟨⟨_, _, _, rfl, by decide, zm_f2.1, zm_f2.2.1, zm_f2.2.2, Or.inl ⟨_, zw_134, Or.inl rfl⟩⟩, zm_okw_n rfl rfl⟩, List.forall_mem_cons.mpr ⟨trivial, List.forall_mem_cons.mpr ⟨trivial, List.forall_mem_cons.mpr ⟨⟨⟨_, _, _, rfl, by decide, zm_f8.1, zm_f8.2.1, zm_f8.2.2, Or.inl ⟨_, zw_571, Or.inl rfl⟩⟩, zm_okw_n rfl rfl⟩, List.forall_mem_cons.mpr ⟨trivial, fun _ h => absurd h List.not_mem_nil⟩⟩⟩⟩⟩⟩
set_option maxRecDepth 100000 in
theorem zq_48_5 : ∀ e ∈ zm_c48_5, zm_okq 48 e.2 := List.forall_mem_cons.mpr ⟨trivial, List.forall_mem_cons.mpr ⟨⟨⟨_, _, _, rfl, by decide, zm_f8.1, zm_f8.2.1, zm_f8.2.2, Or.inl ⟨_, zw_573, Or.inl rfl⟩⟩, zm_okw_n rfl rfl⟩, List.forall_mem_cons.mpr ⟨trivial, List.forall_mem_cons.mpr ⟨trivial, List.forall_mem_cons.mpr ⟨⟨⟨_, _, _, rfl, by decide, zm_f8.1, zm_f8.2.1, zm_f8.2.2, Or.inl ⟨_, zw_575, Or.inl rfl⟩⟩, zm_okw_n rfl rfl⟩, List.forall_mem_cons.mpr ⟨trivial, fun _ h => absurd h List.not_mem_nil⟩⟩⟩⟩⟩⟩
set_option maxRecDepth 100000 in
theorem zq_48_6 : ∀ e ∈ zm_c48_6, zm_okq 48 e.2 := List.forall_mem_cons.mpr ⟨trivial, List.forall_mem_cons.mpr ⟨⟨⟨_, _, _, rfl, by decide, zm_f8.1, zm_f8.2.1, zm_f8.2.2, Or.inl ⟨_, zw_577, Or.inl rfl⟩⟩, zm_okw_n rfl rfl⟩, List.forall_mem_cons.mpr ⟨trivial, List.forall_mem_cons.mpr ⟨trivial, fun _ h => absurd h List.not_mem_nil⟩⟩⟩⟩
set_option maxRecDepth 100000 in
theorem zq_49_0 : ∀ e ∈ zm_c49_0, zm_okq 49 e.2 := List.forall_mem_cons.mpr ⟨trivial, List.forall_mem_cons.mpr ⟨trivial, List.forall_mem_cons.mpr ⟨trivial, fun _ h => absurd h List.not_mem_nil⟩⟩⟩
set_option maxRecDepth 100000 in
theorem zq_50_0 : ∀ e ∈ zm_c50_0, zm_okq 50 e.2 := List.forall_mem_cons.mpr ⟨trivial, List.forall_mem_cons.mpr ⟨trivial, List.forall_mem_cons.mpr ⟨trivial, List.forall_mem_cons.mpr ⟨trivial, List.forall_mem_cons.mpr ⟨trivial, List.forall_mem_cons.mpr ⟨trivial, fun _ h => absurd h List.not_mem_nil⟩⟩⟩⟩⟩⟩
set_option maxRecDepth 100000 in
theorem zq_50_1 : ∀ e ∈ zm_c50_1, zm_okq 50 e.2 := List.forall_mem_cons.mpr ⟨⟨⟨_, _, _, rfl, by decide, zm_f3.1, zm_f3.2.1, zm_f3.2.2, Or.inl ⟨_, zw_85, Or.inl rfl⟩⟩, zm_okw_n rfl rfl⟩, List.forall_mem_cons.mpr ⟨trivial, List.forall_mem_cons.mpr ⟨trivial, List.forall_mem_cons.mpr ⟨⟨⟨_, _, _, rfl, by decide, zm_f3.1, zm_f3.2.1, zm_f3.2.2, Or.inl ⟨_, zw_87, Or.inl rfl⟩⟩, zm_okw_n rfl rfl⟩, List.forall_mem_cons.mpr ⟨trivial, List.forall_mem_cons.mpr ⟨trivial, fun _ h => absurd h List.not_mem_nil⟩⟩⟩⟩⟩⟩
set_option maxRecDepth 100000 in
theorem zq_51_0 : ∀ e ∈ zm_c51_0, zm_okq 51 e.2 := List.forall_mem_cons.mpr ⟨trivial, List.forall_mem_cons.mpr ⟨trivial, List.forall_mem_cons.mpr ⟨⟨_, _, _, rfl, by decide, zm_f7.1, zm_f7.2.1, zm_f7.2.2, Or.inl ⟨_, zw_365, Or.inl rfl⟩⟩, List.forall_mem_cons.mpr ⟨trivial, List.forall_mem_cons.mpr ⟨trivial, List.forall_mem_cons.mpr ⟨trivial, fun _ h => absurd h List.not_mem_nil⟩⟩⟩⟩⟩⟩
set_option maxRecDepth 100000 in
theorem zq_51_1 : ∀ e ∈ zm_c51_1, zm_okq 51 e.2 := List.forall_mem_cons.mpr ⟨trivial, List.forall_mem_cons.mpr ⟨trivial, List.forall_mem_cons.mpr ⟨trivial, List.forall_mem_cons.mpr ⟨trivial, List.forall_mem_cons.mpr ⟨⟨_, _, _, rfl, by decide, zm_f3.1, zm_f3.2.1, zm_f3.2.2, Or.inl ⟨_, zw_82, Or.inl rfl⟩⟩, List.forall_mem_cons.mpr ⟨trivial, fun _ h => absurd h List.not_mem_nil⟩⟩⟩⟩⟩⟩
set_option maxRecDepth 100000 in
theorem zq_51_2 : ∀ e ∈ zm_c51_2, zm_okq 51 e.2 := List.forall_mem_cons.mpr ⟨trivial, List.forall_mem_cons.mpr ⟨trivial, List.forall_mem_cons.mpr ⟨trivial, List.forall_mem_cons.mpr ⟨⟨_, _, _, rfl, by decide, zm_f3.1, zm_f3.2.1, zm_f3.2.2, Or.inl ⟨_, zw_84, Or.inl rfl⟩⟩, List.forall_mem_cons.mpr ⟨trivial, List.forall_mem_cons.mpr ⟨trivial, fun _ h => absurd h List.not_mem_nil⟩⟩⟩⟩⟩⟩
set_option maxRecDepth 100000 in
theorem zq_51_3 : ∀ e ∈ zm_c51_3, zm_okq 51 e.2 := List.forall_mem_cons.mpr ⟨trivial, List.forall_mem_cons.mpr ⟨⟨_, _, _, rfl, by decide, zm_f0.1, zm_f0.2.1, zm_f0.2.2, Or.inl ⟨_, zw_154, Or.inl rfl⟩⟩, List.forall_mem_cons.mpr ⟨trivial, List.forall_mem_cons.mpr ⟨⟨_, _, _, rfl, by decide, zm_f3.1, zm_f3.2.1, zm_f3.2.2, Or.inl ⟨_, zw_90, Or.inl rfl⟩⟩, List.forall_mem_cons.mpr ⟨trivial, List.forall_mem_cons.mpr ⟨trivial, fun _ h => absurd h List.not_mem_nil⟩⟩⟩⟩⟩⟩
set_option maxRecDepth 100000 in
theorem zq_51_4 : ∀ e ∈ zm_c51_4, zm_okq 51 e.2 := List.forall_mem_cons.mpr ⟨⟨_, _, _, rfl, by decide, zm_f7.1, zm_f7.2.1, zm_f7.2.2, Or.inl ⟨_, zw_367, Or.inl rfl⟩⟩, List.forall_mem_cons.mpr ⟨trivial, List.forall_mem_cons.mpr ⟨trivial, List.forall_mem_cons.mpr ⟨trivial, List.forall_mem_cons.mpr ⟨trivial, List.forall_mem_cons.mpr ⟨trivial, fun _ h => absurd h List.not_mem_nil⟩⟩⟩⟩⟩⟩
set_option maxRecDepth 100000 in
theorem zq_51_5 : ∀ e ∈ zm_c51_5, zm_okq 51 e.2 := List.forall_mem_cons.mpr ⟨⟨_, _, _, rfl, by decide, zm_f9.1, zm_f9.2.1, zm_f9.2.2, Or.inl ⟨_, zw_627, Or.inl rfl⟩⟩, List.forall_mem_cons.mpr ⟨trivial, List.forall_mem_cons.mpr ⟨⟨_, _, _, rfl, by decide, zm_f6.1, zm_f6.2.1, zm_f6.2.2, Or.inl ⟨_, zw_388, Or.inl rfl⟩⟩, List.forall_mem_cons.mpr ⟨trivial, List.forall_mem_cons.mpr ⟨trivial, List.forall_mem_cons.mpr ⟨⟨_, _, _, rfl, by decide, zm_f0.1, zm_f0.2.1, zm_f0.2.2, Or.inl ⟨_, zw_154, Or.inl rfl⟩⟩, fun _ h => absurd h List.not_mem_nil⟩⟩⟩⟩⟩⟩
set_option maxRecDepth 100000 in
theorem zq_51_6 : ∀ e ∈ zm_c51_6, zm_okq 51 e.2 := List.forall_mem_cons.mpr ⟨trivial, List.forall_mem_cons.mpr ⟨⟨_, _, _, rfl, by decide, zm_f3.1, zm_f3.2.1, zm_f3.2.2, Or.inl ⟨_, zw_84, Or.inl rfl⟩⟩, List.forall_mem_cons.mpr ⟨trivial, List.forall_mem_cons.mpr ⟨trivial, List.forall_mem_cons.mpr ⟨trivial, List.forall_mem_cons.mpr ⟨trivial, fun _ h => absurd h List.not_mem_nil⟩⟩⟩⟩⟩⟩
set_option maxRecDepth 100000 in
theorem zq_51_7 : ∀ e ∈ zm_c51_7, zm_okq 51 e.2 := List.forall_mem_cons.mpr ⟨trivial, List.forall_mem_cons.mpr ⟨trivial, List.forall_mem_cons.mpr ⟨trivial, List.forall_mem_cons.mpr ⟨trivial, List.forall_mem_cons.mpr ⟨trivial, fun _ h => absurd h List.not_mem_nil⟩⟩⟩⟩⟩
set_option maxRecDepth 100000 in
theorem zq_52_0 : ∀ e ∈ zm_c52_0, zm_okq 52 e.2 := List.forall_mem_cons.mpr ⟨trivial, List.forall_mem_cons.mpr ⟨⟨_, _, _, rfl, by decide, zm_f2.1, zm_f2.2.1, zm_f2.2.2, Or.inl ⟨_, zw_135, Or.inl rfl⟩⟩, List.forall_mem_cons.mpr ⟨trivial, List.forall_mem_cons.mpr ⟨⟨_, _, _, rfl, by decide, zm_f2.1, zm_f2.2.1, zm_f2.2.2, Or.inl ⟨_, zw_132, Or.inl rfl⟩⟩, List.forall_mem_cons.mpr ⟨trivial, List.forall_mem_cons.mpr ⟨trivial, fun _ h => absurd h List.not_mem_nil⟩⟩⟩⟩⟩⟩
set_option maxRecDepth 100000 in
theorem zq_52_1 : ∀ e ∈ zm_c52_1, zm_okq 52 e.2 := List.forall_mem_cons.mpr ⟨trivial, List.forall_mem_cons.mpr ⟨⟨_, _, _, rfl, by decide, zm_f2.1, zm_f2.2.1, zm_f2.2.2, Or.inl ⟨_, zw_132, Or.inl rfl⟩⟩, List.forall_mem_cons.mpr ⟨⟨_, _, _, rfl, rfl, zm_f9.1, zm_f9.2.1, zw_616, zw_617, zw_25⟩, List.forall_mem_cons.mpr ⟨trivial, List.forall_mem_cons.mpr ⟨trivial, List.forall_mem_cons.mpr ⟨trivial, fun _ h => absurd h List.not_mem_nil⟩⟩⟩⟩⟩⟩
set_option maxRecDepth 100000 in
theorem zq_52_2 : ∀ e ∈ zm_c52_2, zm_okq 52 e.2 := List.forall_mem_cons.mpr ⟨trivial, List.forall_mem_cons.mpr ⟨trivial, List.forall_mem_cons.mpr ⟨⟨_, _, _, rfl, by decide, zm_f2.1, zm_f2.2.1, zm_f2.2.2, Or.inl ⟨_, zw_132, Or.inl rfl⟩⟩, List.forall_mem_cons.mpr ⟨trivial, List.forall_mem_cons.mpr ⟨⟨_, _, _, rfl, by decide, zm_f2.1, zm_f2.2.1, zm_f2.2.2, Or.inl ⟨_, zw_135, Or.inl rfl⟩⟩, List.forall_mem_cons.mpr ⟨trivial, fun _ h => absurd h List.not_mem_nil⟩⟩⟩⟩⟩⟩
set_option maxRecDepth 100000 in
theorem zq_52_3 : ∀ e ∈ zm_c52_3, zm_okq 52 e.2 := List.forall_mem_cons.mpr ⟨⟨_, _, _, _, zw_616, rfl, Or.inl rfl⟩, List.forall_mem_cons.mpr ⟨trivial, List.forall_mem_cons.mpr ⟨trivial, List.forall_mem_cons.mpr ⟨trivial, List.forall_mem_cons.mpr ⟨⟨_, _, _, rfl, by decide, zm_f2.1, zm_f2.2.1, zm_f2.2.2, Or.inl ⟨_, zw_135, Or.inl rfl⟩⟩, List.forall_mem_cons.mpr ⟨trivial, fun _ h => absurd h List.not_mem_nil⟩⟩⟩⟩⟩⟩
set_option maxRecDepth 100000 in
theorem zq_52_4 : ∀ e ∈ zm_c52_4, zm_okq 52 e.2 := List.forall_mem_cons.mpr ⟨trivial, List.forall_mem_cons.mpr ⟨⟨⟨_, _, _, rfl, by decide, zm_f2.1, zm_f2.2.1, zm_f2.2.2, Or.inl ⟨_, zw_135, Or.inl rfl⟩⟩, zm_okw_n rfl rfl⟩, List.forall_mem_cons.mpr ⟨trivial, List.forall_mem_cons.mpr ⟨trivial, List.forall_mem_cons.mpr ⟨⟨⟨_, _, _, rfl, by decide, zm_f9.1, zm_f9.2.1, zm_f9.2.2, Or.inl ⟨_, zw_622, Or.inl rfl⟩⟩, zm_okw_n rfl rfl⟩, List.forall_mem_cons.mpr ⟨trivial, fun _ h => absurd h List.not_mem_nil⟩⟩⟩⟩⟩⟩
set_option maxRecDepth 100000 in
theorem zq_52_5 : ∀ e ∈ zm_c52_5, zm_okq 52 e.2 := List.forall_mem_cons.mpr ⟨trivial, List.forall_mem_cons.mpr ⟨⟨⟨_, _, _, rfl, by decide, zm_f9.1, zm_f9.2.1, zm_f9.2.2, Or.inl ⟨_, zw_624, Or.inl rfl⟩⟩, zm_okw_n rfl rfl⟩, List.forall_mem_cons.mpr ⟨trivial, List.forall_mem_cons.mpr ⟨trivial, List.forall_mem_cons.mpr ⟨trivial, List.forall_mem_cons.mpr ⟨trivial, fun _ h => absurd h List.not_mem_nil⟩⟩⟩⟩⟩⟩
set_option maxRecDepth 100000 in
theorem zq_52_6 : ∀ e ∈ zm_c52_6, zm_okq 52 e.2 := List.forall_mem_cons.mpr ⟨trivial, List.forall_mem_cons.mpr ⟨trivial, List.forall_mem_cons.mpr ⟨⟨_, _, _, rfl, by decide, zm_f9.1, zm_f9.2.1, zm_f9.2.2, Or.inl ⟨_, zw_626, Or.inl rfl⟩⟩, List.forall_mem_cons.mpr ⟨trivial, List.forall_mem_cons.mpr ⟨trivial, List.forall_mem_cons.mpr ⟨⟨⟨_, _, _, rfl, by decide, zm_f9.1, zm_f9.2.1, zm_f9.2.2, Or.inl ⟨_, zw_626, Or.inl rfl⟩⟩, zm_okw_n rfl rfl⟩, fun _ h => absurd h List.not_mem_nil⟩⟩⟩⟩⟩⟩
set_option maxRecDepth 100000 in
theorem zq_52_7 : ∀ e ∈ zm_c52_7, zm_okq 52 e.2 := List.forall_mem_cons.mpr ⟨trivial, List.forall_mem_cons.mpr ⟨trivial, fun _ h => absurd h List.not_mem_nil⟩⟩
set_option maxRecDepth 100000 in
theorem zq_53_0 : ∀ e ∈ zm_c53_0, zm_okq 53 e.2 := List.forall_mem_cons.mpr ⟨trivial, List.forall_mem_cons.mpr ⟨trivial, List.forall_mem_cons.mpr ⟨trivial, fun _ h => absurd h List.not_mem_nil⟩⟩⟩
set_option maxRecDepth 100000 in
theorem zq_54_0 : ∀ e ∈ zm_c54_0, zm_okq 54 e.2 := List.forall_mem_cons.mpr ⟨trivial, List.forall_mem_cons.mpr ⟨⟨_, _, _, rfl, by decide, zm_f3.1, zm_f3.2.1, zm_f3.2.2, Or.inl ⟨_, zw_82, Or.inl rfl⟩⟩, List.forall_mem_cons.mpr ⟨trivial, List.forall_mem_cons.mpr ⟨trivial, List.forall_mem_cons.mpr ⟨trivial, List.forall_mem_cons.mpr ⟨⟨_, _, _, rfl, by decide, zm_f3.1, zm_f3.2.1, zm_f3.2.2, Or.inl ⟨_, zw_82, Or.inl rfl⟩⟩, fun _ h => absurd h List.not_mem_nil⟩⟩⟩⟩⟩⟩
set_option maxRecDepth 100000 in
theorem zq_54_1 : ∀ e ∈ zm_c54_1, zm_okq 54 e.2 := List.forall_mem_cons.mpr ⟨trivial, List.forall_mem_cons.mpr ⟨trivial, List.forall_mem_cons.mpr ⟨trivial, List.forall_mem_cons.mpr ⟨trivial, fun _ h => absurd h List.not_mem_nil⟩⟩⟩⟩
set_option maxRecDepth 100000 in
theorem zq_55_0 : ∀ e ∈ zm_c55_0, zm_okq 55 e.2 := List.forall_mem_cons.mpr ⟨trivial, List.forall_mem_cons.mpr ⟨⟨_, _, _, rfl, by decide, zm_f3.1, zm_f3.2.1, zm_f3.2.2, Or.inl ⟨_, zw_82, Or.inl rfl⟩⟩, List.forall_mem_cons.mpr ⟨trivial, List.forall_mem_cons.mpr ⟨trivial, List.forall_mem_cons.mpr ⟨trivial, List.forall_mem_cons.mpr ⟨⟨_, _, _, rfl, by decide, zm_f3.1, zm_f3.2.1, zm_f3.2.2, Or.inl ⟨_, zw_82, Or.inl rfl⟩⟩, fun _ h => absurd h List.not_mem_nil⟩⟩⟩⟩⟩⟩
set_option maxRecDepth 100000 in
theorem zq_55_1 : ∀ e ∈ zm_c55_1, zm_okq 55 e.2 := List.forall_mem_cons.mpr ⟨trivial, List.forall_mem_cons.mpr ⟨trivial, List.forall_mem_cons.mpr ⟨trivial, List.forall_mem_cons.mpr ⟨⟨_, _, _, rfl, by decide, zm_f3.1, zm_f3.2.1, zm_f3.2.2, Or.inl ⟨_, zw_82, Or.inl rfl⟩⟩, List.forall_mem_cons.mpr ⟨trivial, List.forall_mem_cons.mpr ⟨trivial, fun _ h => absurd h List.not_mem_nil⟩⟩⟩⟩⟩⟩
set_option maxRecDepth 100000 in
theorem zq_55_2 : ∀ e ∈ zm_c55_2, zm_okq 55 e.2 := List.forall_mem_cons.mpr ⟨trivial, List.forall_mem_cons.mpr ⟨trivial, List.forall_mem_cons.mpr ⟨trivial, List.forall_mem_cons.mpr ⟨trivial, fun _ h => absurd h List.not_mem_nil⟩⟩⟩⟩
set_option maxRecDepth 100000 in
theorem zq_56_0 : ∀ e ∈ zm_c56_0, zm_okq 56 e.2 := List.forall_mem_cons.mpr ⟨trivial, List.forall_mem_cons.mpr ⟨trivial, List.forall_mem_cons.mpr ⟨⟨_, _, _, rfl, by decide, zm_f7.1, zm_f7.2.1, zm_f7.2.2, Or.inl ⟨_, zw_365, Or.inl rfl⟩⟩, List.forall_mem_cons.mpr ⟨trivial, List.forall_mem_cons.mpr ⟨trivial, List.forall_mem_cons.mpr ⟨trivial, fun _ h => absurd h List.not_mem_nil⟩⟩⟩⟩⟩⟩
set_option maxRecDepth 100000 in
theorem zq_56_1 : ∀ e ∈ zm_c56_1, zm_okq 56 e.2 := List.forall_mem_cons.mpr ⟨trivial, List.forall_mem_cons.mpr ⟨trivial, List.forall_mem_cons.mpr ⟨trivial, List.forall_mem_cons.mpr ⟨trivial, List.forall_mem_cons.mpr ⟨trivial, List.forall_mem_cons.mpr ⟨trivial, fun _ h => absurd h List.not_mem_nil⟩⟩⟩⟩⟩⟩
set_option maxRecDepth 100000 in
theorem zq_56_2 : ∀ e ∈ zm_c56_2, zm_okq 56 e.2 := List.forall_mem_cons.mpr ⟨trivial, List.forall_mem_cons.mpr ⟨trivial, List.forall_mem_cons.mpr ⟨⟨_, _, _, rfl, by decide, zm_f7.1, zm_f7.2.1, zm_f7.2.2, Or.inl ⟨_, zw_367, Or.inl rfl⟩⟩, List.forall_mem_cons.mpr ⟨trivial, List.forall_mem_cons.mpr ⟨trivial, List.forall_mem_cons.mpr ⟨⟨_, _, _, rfl, by decide, zm_f7.1, zm_f7.2.1, zm_f7.2.2, Or.inl ⟨_, zw_369, Or.inl rfl⟩⟩, fun _ h => absurd h List.not_mem_nil⟩⟩⟩⟩⟩⟩
set_option maxRecDepth 100000 in
theorem zq_56_3 : ∀ e ∈ zm_c56_3, zm_okq 56 e.2 := List.forall_mem_cons.mpr ⟨trivial, List.forall_mem_cons.mpr ⟨trivial, List.forall_mem_cons.mpr ⟨trivial, List.forall_mem_cons.mpr ⟨trivial, List.forall_mem_cons.mpr ⟨trivial, List.forall_mem_cons.mpr ⟨trivial, fun _ h => absurd h List.not_mem_nil⟩⟩⟩⟩⟩⟩
set_option maxRecDepth 100000 in
theorem zq_57_0 : ∀ e ∈ zm_c57_0, zm_okq 57 e.2 := List.forall_mem_cons.mpr ⟨trivial, List.forall_mem_cons.mpr ⟨⟨_, _, _, rfl, by decide, zm_f3.1, zm_f3.2.1, zm_f3.2.2, Or.inl ⟨_, zw_82, Or.inl rfl⟩⟩, List.forall_mem_cons.mpr ⟨trivial, List.forall_mem_cons.mpr ⟨trivial, List.forall_mem_cons.mpr ⟨⟨_, _, _, rfl, by decide, zm_f3.1, zm_f3.2.1, zm_f3.2.2, Or.inl ⟨_, zw_84, Or.inl rfl⟩⟩, List.forall_mem_cons.mpr ⟨trivial, fun _ h => absurd h List.not_mem_nil⟩⟩⟩⟩⟩⟩
set_option maxRecDepth 100000 in
theorem zq_58_0 : ∀ e ∈ zm_c58_0, zm_okq 58 e.2 := List.forall_mem_cons.mpr ⟨trivial, List.forall_mem_cons.mpr ⟨trivial, List.forall_mem_cons.mpr ⟨⟨_, _, _, rfl, by decide, zm_f7.1, zm_f7.2.1, zm_f7.2.2, Or.inl ⟨_, zw_365, Or.inl rfl⟩⟩, List.forall_mem_cons.mpr ⟨trivial, List.forall_mem_cons.mpr ⟨trivial, List.forall_mem_cons.mpr ⟨trivial, fun _ h => absurd h List.not_mem_nil⟩⟩⟩⟩⟩⟩
set_option maxRecDepth 100000 in
theorem zq_58_1 : ∀ e ∈ zm_c58_1, zm_okq 58 e.2 := List.forall_mem_cons.mpr ⟨trivial, List.forall_mem_cons.mpr ⟨trivial, List.forall_mem_cons.mpr ⟨trivial, List.forall_mem_cons.mpr ⟨trivial, List.forall_mem_cons.mpr ⟨trivial, List.forall_mem_cons.mpr ⟨trivial, fun _ h => absurd h List.not_mem_nil⟩⟩⟩⟩⟩⟩
set_option maxRecDepth 100000 in
theorem zq_58_2 : ∀ e ∈ zm_c58_2, zm_okq 58 e.2 := List.forall_mem_cons.mpr ⟨⟨_, _, _, rfl, by decide, zm_f7.1, zm_f7.2.1, zm_f7.2.2, Or.inl ⟨_, zw_367, Or.inl rfl⟩⟩, List.forall_mem_cons.mpr ⟨trivial, List.forall_mem_cons.mpr ⟨trivial, List.forall_mem_cons.mpr ⟨trivial, List.forall_mem_cons.mpr ⟨trivial, List.forall_mem_cons.mpr ⟨trivial, fun _ h => absurd h List.not_mem_nil⟩⟩⟩⟩⟩⟩
set_option maxRecDepth 100000 in
theorem zq_58_3 : ∀ e ∈ zm_c58_3, zm_okq 58 e.2 := List.forall_mem_cons.mpr ⟨trivial, List.forall_mem_cons.mpr ⟨trivial, List.forall_mem_cons.mpr ⟨trivial, List.forall_mem_cons.mpr ⟨⟨_, _, _, rfl, by decide, zm_f0.1, zm_f0.2.1, zm_f0.2.2, Or.inl ⟨_, zw_154, Or.inl rfl⟩⟩, List.forall_mem_cons.mpr ⟨trivial, List.forall_mem_cons.mpr ⟨⟨_, _, _, rfl, by decide, zm_f7.1, zm_f7.2.1, zm_f7.2.2, Or.inl ⟨_, zw_361, Or.inl rfl⟩⟩, fun _ h => absurd h List.not_mem_nil⟩⟩⟩⟩⟩⟩
set_option maxRecDepth 100000 in
theorem zq_58_4 : ∀ e ∈ zm_c58_4, zm_okq 58 e.2 := List.forall_mem_cons.mpr ⟨trivial, List.forall_mem_cons.mpr ⟨trivial, List.forall_mem_cons.mpr ⟨trivial, List.forall_mem_cons.mpr ⟨trivial, List.forall_mem_cons.mpr ⟨trivial, fun _ h => absurd h List.not_mem_nil⟩⟩⟩⟩⟩
set_option maxRecDepth 100000 in
theorem zq_59_0 : ∀ e ∈ zm_c59_0, zm_okq 59 e.2 := List.forall_mem_cons.mpr ⟨trivial, List.forall_mem_cons.mpr ⟨trivial, List.forall_mem_cons.mpr ⟨trivial, List.forall_mem_cons.mpr ⟨trivial, List.forall_mem_cons.mpr ⟨trivial, List.forall_mem_cons.mpr ⟨trivial, fun _ h => absurd h List.not_mem_nil⟩⟩⟩⟩⟩⟩
set_option maxRecDepth 100000 in
theorem zq_59_1 : ∀ e ∈ zm_c59_1, zm_okq 59 e.2 := List.forall_mem_cons.mpr ⟨trivial, List.forall_mem_cons.mpr ⟨trivial, List.forall_mem_cons.mpr ⟨trivial, List.forall_mem_cons.mpr ⟨trivial, List.forall_mem_cons.mpr ⟨trivial, List.forall_mem_cons.mpr ⟨trivial, fun _ h => absurd h List.not_mem_nil⟩⟩⟩⟩⟩⟩
set_option maxRecDepth 100000 in
theorem zq_59_2 : ∀ e ∈ zm_c59_2, zm_okq 59 e.2 := List.forall_mem_cons.mpr ⟨trivial, List.forall_mem_cons.mpr ⟨trivial, List.forall_mem_cons.mpr ⟨trivial, List.forall_mem_cons.mpr ⟨trivial, List.forall_mem_cons.mpr ⟨trivial, List.forall_mem_cons.mpr ⟨trivial, fun _ h => absurd h List.not_mem_nil⟩⟩⟩⟩⟩⟩
set_option maxRecDepth 100000 in
theorem zq_59_3 : ∀ e ∈ zm_c59_3, zm_okq 59 e.2 := List.forall_mem_cons.mpr ⟨trivial, List.forall_mem_cons.mpr ⟨trivial, List.forall_mem_cons.mpr ⟨trivial, List.forall_mem_cons.mpr ⟨trivial, List.forall_mem_cons.mpr ⟨trivial, List.forall_mem_cons.mpr ⟨trivial, fun _ h => absurd h List.not_mem_nil⟩⟩⟩⟩⟩⟩
set_option maxRecDepth 100000 in
theorem zq_59_4 : ∀ e ∈ zm_c59_4, zm_okq 59 e.2 := List.forall_mem_cons.mpr ⟨trivial, List.forall_mem_cons.mpr ⟨trivial, List.forall_mem_cons.mpr ⟨trivial, List.forall_mem_cons.mpr ⟨trivial, List.forall_mem_cons.mpr ⟨trivial, List.forall_mem_cons.mpr ⟨trivial, fun _ h => absurd h List.not_mem_nil⟩⟩⟩⟩⟩⟩
set_option maxRecDepth 100000 in
theorem zq_59_5 : ∀ e ∈ zm_c59_5, zm_okq 59 e.2 := List.forall_mem_cons.mpr ⟨trivial, List.forall_mem_cons.mpr ⟨trivial, List.forall_mem_cons.mpr ⟨trivial, List.forall_mem_cons.mpr ⟨trivial, List.forall_mem_cons.mpr ⟨trivial, List.forall_mem_cons.mpr ⟨trivial, fun _ h => absurd h List.not_mem_nil⟩⟩⟩⟩⟩⟩
set_option maxRecDepth 100000 in
theorem zq_59_6 : ∀ e ∈ zm_c59_6, zm_okq 59 e.2 := List.forall_mem_cons.mpr ⟨trivial, List.forall_mem_cons.mpr ⟨trivial, fun _ h => absurd h List.not_mem_nil⟩⟩
set_option maxRecDepth 100000 in
theorem zq_60_0 : ∀ e ∈ zm_c60_0, zm_okq 60 e.2 := List.forall_mem_cons.mpr ⟨trivial, List.forall_mem_cons.mpr ⟨trivial, List.forall_mem_cons.mpr ⟨trivial, List.forall_mem_cons.mpr ⟨trivial, fun _ h => absurd h List.not_mem_nil⟩⟩⟩⟩
set_option maxRecDepth 100000 in
theorem zq_61_0 : ∀ e ∈ zm_c61_0, zm_okq 61 e.2 := List.forall_mem_cons.mpr ⟨trivial, List.forall_mem_cons.mpr ⟨trivial, List.forall_mem_cons.mpr ⟨trivial, List.forall_mem_cons.mpr ⟨trivial, List.forall_mem_cons.mpr ⟨trivial, List.forall_mem_cons.mpr ⟨trivial, fun _ h => absurd h List.not_mem_nil⟩⟩⟩⟩⟩⟩
set_option maxRecDepth 100000 in
theorem zq_61_1 : ∀ e ∈ zm_c61_1, zm_okq 61 e.2 := List.forall_mem_cons.mpr ⟨trivial, List.forall_mem_cons.mpr ⟨trivial, List.forall_mem_cons.mpr ⟨trivial, List.forall_mem_cons.mpr ⟨trivial, List.forall_mem_cons.mpr ⟨trivial, List.forall_mem_cons.mpr ⟨trivial, fun _ h => absurd h List.not_mem_nil⟩⟩⟩⟩⟩⟩
set_option maxRecDepth 100000 in
theorem zq_61_2 : ∀ e ∈ zm_c61_2, zm_okq 61 e.2 := List.forall_mem_cons.mpr ⟨trivial, List.forall_mem_cons.mpr ⟨trivial, List.forall_mem_cons.mpr ⟨trivial, fun _ h => absurd h List.not_mem_nil⟩⟩⟩
set_option maxRecDepth 100000 in
theorem zq_62_0 : ∀ e ∈ zm_c62_0, zm_okq 62 e.2 := List.forall_mem_cons.mpr ⟨trivial, List.forall_mem_cons.mpr ⟨⟨_, _, _, rfl, by decide, zm_f0.1, zm_f0.2.1, zm_f0.2.2, Or.inl ⟨_, zw_156, Or.inl rfl⟩⟩, List.forall_mem_cons.mpr ⟨trivial, List.forall_mem_cons.mpr ⟨trivial, List.forall_mem_cons.mpr ⟨⟨_, _, _, rfl, by decide, zm_f0.1, zm_f0.2.1, zm_f0.2.2, Or.inl ⟨_, zw_156, Or.inl rfl⟩⟩, List.forall_mem_cons.mpr ⟨trivial, fun _ h => absurd h List.not_mem_nil⟩⟩⟩⟩⟩⟩
set_option maxRecDepth 100000 in
theorem zq_62_1 : ∀ e ∈ zm_c62_1, zm_okq 62 e.2 := List.forall_mem_cons.mpr ⟨trivial, fun _ h => absurd h List.not_mem_nil⟩
set_option maxRecDepth 100000 in
theorem zq_63_0 : ∀ e ∈ zm_c63_0, zm_okq 63 e.2 := List.forall_mem_cons.mpr ⟨trivial, List.forall_mem_cons.mpr ⟨trivial, List.forall_mem_cons.mpr ⟨trivial, List.forall_mem_cons.mpr ⟨trivial, List.forall_mem_cons.mpr ⟨trivial, List.forall_mem_cons.mpr ⟨trivial, fun _ h => absurd h List.not_mem_nil⟩⟩⟩⟩⟩⟩
set_option maxRecDepth 100000 in
theorem zq_63_1 : ∀ e ∈ zm_c63_1, zm_okq 63 e.2 := List.forall_mem_cons.mpr ⟨trivial, List.forall_mem_cons.mpr ⟨trivial, List.forall_mem_cons.mpr ⟨trivial, List.forall_mem_cons.mpr ⟨trivial, List.forall_mem_cons.mpr ⟨trivial, List.forall_mem_cons.mpr ⟨trivial, fun _ h => absurd h List.not_mem_nil⟩⟩⟩⟩⟩⟩
set_option maxRecDepth 100000 in
theorem zq_63_2 : ∀ e ∈ zm_c63_2, zm_okq 63 e.2 := List.forall_mem_cons.mpr ⟨trivial, List.forall_mem_cons.mpr ⟨trivial, List.forall_mem_cons.mpr ⟨trivial, List.forall_mem_cons.mpr ⟨trivial, List.forall_mem_cons.mpr ⟨trivial, List.forall_mem_cons.mpr ⟨trivial, fun _ h => absurd h List.not_mem_nil⟩⟩⟩⟩⟩⟩
set_option maxRecDepth 100000 in
theorem zq_63_3 : ∀ e ∈ zm_c63_3, zm_okq 63 e.2 := List.forall_mem_cons.mpr ⟨trivial, List.forall_mem_cons.mpr ⟨trivial, List.forall_mem_cons.mpr ⟨trivial, fun _ h => absurd h List.not_mem_nil⟩⟩⟩
set_option maxRecDepth 100000 in
theorem zq_64_0 : ∀ e ∈ zm_c64_0, zm_okq 64 e.2 := List.forall_mem_cons.mpr ⟨trivial, List.forall_mem_cons.mpr ⟨trivial, List.forall_mem_cons.mpr ⟨trivial, List.forall_mem_cons.mpr ⟨trivial, List.forall_mem_cons.mpr ⟨trivial, List.forall_mem_cons.mpr ⟨⟨_, _, _, rfl, by decide, zm_f3.1, zm_f3.2.1, zm_f3.2.2, Or.inl ⟨_, zw_86, Or.inl rfl⟩⟩, fun _ h => absurd h List.not_mem_nil⟩⟩⟩⟩⟩⟩
set_option maxRecDepth 100000 in
theorem zq_64_1 : ∀ e ∈ zm_c64_1, zm_okq 64 e.2 := List.forall_mem_cons.mpr ⟨trivial, List.forall_mem_cons.mpr ⟨trivial, List.forall_mem_cons.mpr ⟨trivial, List.forall_mem_cons.mpr ⟨trivial, List.forall_mem_cons.mpr ⟨trivial, List.forall_mem_cons.mpr ⟨trivial, fun _ h => absurd h List.not_mem_nil⟩⟩⟩⟩⟩⟩
set_option maxRecDepth 100000 in
theorem zq_64_2 : ∀ e ∈ zm_c64_2, zm_okq 64 e.2 := List.forall_mem_cons.mpr ⟨⟨⟨_, _, _, rfl, by decide, zm_f0.1, zm_f0.2.1, zm_f0.2.2, Or.inl ⟨_, zw_156, Or.inl rfl⟩⟩, zm_okw_n rfl rfl⟩, List.forall_mem_cons.mpr ⟨trivial, List.forall_mem_cons.mpr ⟨trivial, fun _ h => absurd h List.not_mem_nil⟩⟩⟩
set_option maxRecDepth 100000 in
theorem zq_65_0 : ∀ e ∈ zm_c65_0, zm_okq 65 e.2 := List.forall_mem_cons.mpr ⟨trivial, List.forall_mem_cons.mpr ⟨⟨_, _, _, rfl, by decide, zm_f0.1, zm_f0.2.1, zm_f0.2.2, Or.inl ⟨_, zw_156, Or.inl rfl⟩⟩, List.forall_mem_cons.mpr ⟨trivial, List.forall_mem_cons.mpr ⟨trivial, List.forall_mem_cons.mpr ⟨trivial, List.forall_mem_cons.mpr ⟨⟨⟨_, _, _, rfl, by decide, zm_f0.1, zm_f0.2.1, zm_f0.2.2, Or.inl ⟨_, zw_156, Or.inl rfl⟩⟩, zm_okw_n rfl rfl⟩, fun _ h => absurd h List.not_mem_nil⟩⟩⟩⟩⟩⟩
set_option maxRecDepth 100000 in
theorem zq_65_1 : ∀ e ∈ zm_c65_1, zm_okq 65 e.2 := List.forall_mem_cons.mpr ⟨trivial, List.forall_mem_cons.mpr ⟨trivial, List.forall_mem_cons.mpr ⟨trivial, List.forall_mem_cons.mpr ⟨trivial, List.forall_mem_cons.mpr ⟨trivial, fun _ h => absurd h List.not_mem_nil⟩⟩⟩⟩⟩
set_option maxRecDepth 100000 in
theorem zq_66_0 : ∀ e ∈ zm_c66_0, zm_okq 66 e.2 := List.forall_mem_cons.mpr ⟨trivial, List.forall_mem_cons.mpr ⟨trivial, List.forall_mem_cons.mpr ⟨trivial, List.forall_mem_cons.mpr ⟨trivial, List.forall_mem_cons.mpr ⟨trivial, List.forall_mem_cons.mpr ⟨trivial, fun _ h => absurd h List.not_mem_nil⟩⟩⟩⟩⟩⟩
set_option maxRecDepth 100000 in
theorem zq_66_1 : ∀ e ∈ zm_c66_1, zm_okq 66 e.2 := List.forall_mem_cons.mpr ⟨trivial, List.forall_mem_cons.mpr ⟨trivial, List.forall_mem_cons.mpr ⟨trivial, List.forall_mem_cons.mpr ⟨trivial, List.forall_mem_cons.mpr ⟨trivial, List.forall_mem_cons.mpr ⟨trivial, fun _ h => absurd h List.not_mem_nil⟩⟩⟩⟩⟩⟩
set_option maxRecDepth 100000 in
theorem zq_66_2 : ∀ e ∈ zm_c66_2, zm_okq 66 e.2 := List.forall_mem_cons.mpr ⟨trivial, List.forall_mem_cons.mpr ⟨trivial, List.forall_mem_cons.mpr ⟨trivial, List.forall_mem_cons.mpr ⟨trivial, List.forall_mem_cons.mpr ⟨trivial, List.forall_mem_cons.mpr ⟨trivial, fun _ h => absurd h List.not_mem_nil⟩⟩⟩⟩⟩⟩
set_option maxRecDepth 100000 in
theorem zq_66_3 : ∀ e ∈ zm_c66_3, zm_okq 66 e.2 := List.forall_mem_cons.mpr ⟨trivial, List.forall_mem_cons.mpr ⟨trivial, List.forall_mem_cons.mpr ⟨trivial, fun _ h => absurd h List.not_mem_nil⟩⟩⟩
set_option maxRecDepth 100000 in
theorem zq_67_0 : ∀ e ∈ zm_c67_0, zm_okq 67 e.2 := List.forall_mem_cons.mpr ⟨trivial, List.forall_mem_cons.mpr ⟨trivial, List.forall_mem_cons.mpr ⟨trivial, List.forall_mem_cons.mpr ⟨trivial, List.forall_mem_cons.mpr ⟨trivial, List.forall_mem_cons.mpr ⟨trivial, fun _ h => absurd h List.not_mem_nil⟩⟩⟩⟩⟩⟩
set_option maxRecDepth 100000 in
theorem zq_67_1 : ∀ e ∈ zm_c67_1, zm_okq 67 e.2 := List.forall_mem_cons.mpr ⟨⟨_, _, _, rfl, by decide, zm_f3.1, zm_f3.2.1, zm_f3.2.2, Or.inl ⟨_, zw_88, Or.inl rfl⟩⟩, List.forall_mem_cons.mpr ⟨trivial, List.forall_mem_cons.mpr ⟨trivial, List.forall_mem_cons.mpr ⟨⟨⟨_, _, _, rfl, by decide, zm_f0.1, zm_f0.2.1, zm_f0.2.2, Or.inl ⟨_, zw_156, Or.inl rfl⟩⟩, zm_okw_n rfl rfl⟩, List.forall_mem_cons.mpr ⟨trivial, List.forall_mem_cons.mpr ⟨⟨_, _, _, rfl, by decide, zm_f0.1, zm_f0.2.1, zm_f0.2.2, Or.inl ⟨_, zw_156, Or.inl rfl⟩⟩, fun _ h => absurd h List.not_mem_nil⟩⟩⟩⟩⟩⟩
set_option maxRecDepth 100000 in
theorem zq_67_2 : ∀ e ∈ zm_c67_2, zm_okq 67 e.2 := List.forall_mem_cons.mpr ⟨⟨_, _, _, rfl, by decide, zm_f3.1, zm_f3.2.1, zm_f3.2.2, Or.inl ⟨_, zw_82, Or.inl rfl⟩⟩, List.forall_mem_cons.mpr ⟨trivial, fun _ h => absurd h List.not_mem_nil⟩⟩
set_option maxRecDepth 100000 in
theorem zq_68_0 : ∀ e ∈ zm_c68_0, zm_okq 68 e.2 := List.forall_mem_cons.mpr ⟨trivial, List.forall_mem_cons.mpr ⟨trivial, List.forall_mem_cons.mpr ⟨trivial, List.forall_mem_cons.mpr ⟨trivial, List.forall_mem_cons.mpr ⟨trivial, List.forall_mem_cons.mpr ⟨trivial, fun _ h => absurd h List.not_mem_nil⟩⟩⟩⟩⟩⟩
set_option maxRecDepth 100000 in
theorem zq_68_1 : ∀ e ∈ zm_c68_1, zm_okq 68 e.2 := List.forall_mem_cons.mpr ⟨trivial, List.forall_mem_cons.mpr ⟨trivial, List.forall_mem_cons.mpr ⟨trivial, List.forall_mem_cons.mpr ⟨trivial, List.forall_mem_cons.mpr ⟨trivial, List.forall_mem_cons.mpr ⟨trivial, fun _ h => absurd h List.not_mem_nil⟩⟩⟩⟩⟩⟩
set_option maxRecDepth 100000 in
theorem zq_69_0 : ∀ e ∈ zm_c69_0, zm_okq 69 e.2 := List.forall_mem_cons.mpr ⟨trivial, List.forall_mem_cons.mpr ⟨trivial, List.forall_mem_cons.mpr ⟨trivial, List.forall_mem_cons.mpr ⟨trivial, List.forall_mem_cons.mpr ⟨trivial, List.forall_mem_cons.mpr ⟨trivial, fun _ h => absurd h List.not_mem_nil⟩⟩⟩⟩⟩⟩
set_option maxRecDepth 100000 in
theorem zq_69_1 : ∀ e ∈ zm_c69_1, zm_okq 69 e.2 := List.forall_mem_cons.mpr ⟨trivial, List.forall_mem_cons.mpr ⟨trivial, List.forall_mem_cons.mpr ⟨trivial, List.forall_mem_cons.mpr ⟨trivial, List.forall_mem_cons.mpr ⟨⟨_, _, _, rfl, by decide, zm_f0.1, zm_f0.2.1, zm_f0.2.2, Or.inl ⟨_, zw_155, Or.inl rfl⟩⟩, List.forall_mem_cons.mpr ⟨trivial, fun _ h => absurd h List.not_mem_nil⟩⟩⟩⟩⟩⟩
set_option maxRecDepth 100000 in
theorem zq_69_2 : ∀ e ∈ zm_c69_2, zm_okq 69 e.2 := List.forall_mem_cons.mpr ⟨trivial, List.forall_mem_cons.mpr ⟨trivial, List.forall_mem_cons.mpr ⟨trivial, fun _ h => absurd h List.not_mem_nil⟩⟩⟩
set_option maxRecDepth 100000 in
theorem zq_70_0 : ∀ e ∈ zm_c70_0, zm_okq 70 e.2 := List.forall_mem_cons.mpr ⟨trivial, List.forall_mem_cons.mpr ⟨trivial, List.forall_mem_cons.mpr ⟨trivial, List.forall_mem_cons.mpr ⟨trivial, List.forall_mem_cons.mpr ⟨⟨_, rfl, rfl, zw_853⟩, List.forall_mem_cons.mpr ⟨⟨⟨_, _, _, rfl, by decide, zm_f5.1, zm_f5.2.1, zm_f5.2.2, Or.inl ⟨_, zw_720, Or.inl rfl⟩⟩, zm_okw_f rfl rfl rfl zw_720⟩, fun _ h => absurd h List.not_mem_nil⟩⟩⟩⟩⟩⟩
set_option maxRecDepth 100000 in
theorem zq_70_1 : ∀ e ∈ zm_c70_1, zm_okq 70 e.2 := List.forall_mem_cons.mpr ⟨trivial, List.forall_mem_cons.mpr ⟨trivial, List.forall_mem_cons.mpr ⟨⟨_, rfl, rfl, zw_853⟩, List.forall_mem_cons.mpr ⟨⟨⟨_, _, _, rfl, by decide, zm_f5.1, zm_f5.2.1, zm_f5.2.2, Or.inl ⟨_, zw_721, Or.inl rfl⟩⟩, zm_okw_f rfl rfl rfl zw_721⟩, List.forall_mem_cons.mpr ⟨trivial, List.forall_mem_cons.mpr ⟨trivial, fun _ h => absurd h List.not_mem_nil⟩⟩⟩⟩⟩⟩
set_option maxRecDepth 100000 in
theorem zq_70_2 : ∀ e ∈ zm_c70_2, zm_okq 70 e.2 := List.forall_mem_cons.mpr ⟨⟨_, rfl, rfl, zw_853⟩, List.forall_mem_cons.mpr ⟨⟨⟨_, _, _, rfl, by decide, zm_f5.1, zm_f5.2.1, zm_f5.2.2, Or.inl ⟨_, zw_722, Or.inl rfl⟩⟩, zm_okw_f rfl rfl rfl zw_722⟩, List.forall_mem_cons.mpr ⟨trivial, List.forall_mem_cons.mpr ⟨trivial, List.forall_mem_cons.mpr ⟨⟨_, rfl, rfl, zw_853⟩, List.forall_mem_cons.mpr ⟨⟨⟨_, _, _, rfl, by decide, zm_f5.1, zm_f5.2.1, zm_f5.2.2, Or.inl ⟨_, zw_723, Or.inl rfl⟩⟩, zm_okw_f rfl rfl rfl zw_723⟩, fun _ h => absurd h List.not_mem_nil⟩⟩⟩⟩⟩⟩
set_option maxRecDepth 100000 in
theorem zq_70_3 : ∀ e ∈ zm_c70_3, zm_okq 70 e.2 := List.forall_mem_cons.mpr ⟨trivial, List.forall_mem_cons.mpr ⟨trivial, List.forall_mem_cons.mpr ⟨⟨_, rfl, rfl, zw_853⟩, List.forall_mem_cons.mpr ⟨⟨⟨_, _, _, rfl, by decide, zm_f5.1, zm_f5.2.1, zm_f5.2.2, Or.inl ⟨_, zw_724, Or.inl rfl⟩⟩, zm_okw_f rfl rfl rfl zw_724⟩, List.forall_mem_cons.mpr ⟨trivial, List.forall_mem_cons.mpr ⟨trivial, fun _ h => absurd h List.not_mem_nil⟩⟩⟩⟩⟩⟩
set_option maxRecDepth 100000 in
theorem zq_70_4 : ∀ e ∈ zm_c70_4, zm_okq 70 e.2 := List.forall_mem_cons.mpr ⟨⟨_, rfl, rfl, zw_853⟩, List.forall_mem_cons.mpr ⟨⟨⟨_, _, _, rfl, by decide, zm_f5.1, zm_f5.2.1, zm_f5.2.2, Or.inl ⟨_, zw_725, Or.inl rfl⟩⟩, zm_okw_f rfl rfl rfl zw_725⟩, List.forall_mem_cons.mpr ⟨trivial, List.forall_mem_cons.mpr ⟨trivial, List.forall_mem_cons.mpr ⟨⟨_, rfl, rfl, zw_853⟩, List.forall_mem_cons.mpr ⟨⟨⟨_, _, _, rfl, by decide, zm_f5.1, zm_f5.2.1, zm_f5.2.2, Or.inl ⟨_, zw_726, Or.inl rfl⟩⟩, zm_okw_f rfl rfl rfl zw_726⟩, fun _ h => absurd h List.not_mem_nil⟩⟩⟩⟩⟩⟩
set_option maxRecDepth 100000 in
theorem zq_70_5 : ∀ e ∈ zm_c70_5, zm_okq 70 e.2 := List.forall_mem_cons.mpr ⟨trivial, List.forall_mem_cons.mpr ⟨trivial, List.forall_mem_cons.mpr ⟨⟨_, rfl, rfl, zw_854⟩, List.forall_mem_cons.mpr ⟨⟨⟨_, _, _, rfl, by decide, zm_f5.1, zm_f5.2.1, zm_f5.2.2, Or.inl ⟨_, zw_727, Or.inl rfl⟩⟩, zm_okw_f rfl rfl rfl zw_727⟩, List.forall_mem_cons.mpr ⟨trivial, List.forall_mem_cons.mpr ⟨trivial, fun _ h => absurd h List.not_mem_nil⟩⟩⟩⟩⟩⟩
set_option maxRecDepth 100000 in
theorem zq_70_6 : ∀ e ∈ zm_c70_6, zm_okq 70 e.2 := List.forall_mem_cons.mpr ⟨⟨⟨_, _, _, rfl, by decide, zm_f5.1, zm_f5.2.1, zm_f5.2.2, Or.inl ⟨_, zw_729, Or.inl rfl⟩⟩, zm_okw_n rfl rfl⟩, List.forall_mem_cons.mpr ⟨trivial, List.forall_mem_cons.mpr ⟨trivial, List.forall_mem_cons.mpr ⟨⟨_, rfl, rfl, zw_853⟩, List.forall_mem_cons.mpr ⟨⟨⟨_, _, _, rfl, by decide, zm_f5.1, zm_f5.2.1, zm_f5.2.2, Or.inl ⟨_, zw_733, Or.inl rfl⟩⟩, zm_okw_f rfl rfl rfl zw_733⟩, List.forall_mem_cons.mpr ⟨trivial, fun _ h => absurd h List.not_mem_nil⟩⟩⟩⟩⟩⟩
set_option maxRecDepth 100000 in
theorem zq_70_7 : ∀ e ∈ zm_c70_7, zm_okq 70 e.2 := List.forall_mem_cons.mpr ⟨trivial, List.forall_mem_cons.mpr ⟨⟨_, rfl, rfl, zw_853⟩, List.forall_mem_cons.mpr ⟨⟨⟨_, _, _, rfl, by decide, zm_f5.1, zm_f5.2.1, zm_f5.2.2, Or.inl ⟨_, zw_734, Or.inl rfl⟩⟩, zm_okw_f rfl rfl rfl zw_734⟩, List.forall_mem_cons.mpr ⟨trivial, List.forall_mem_cons.mpr ⟨trivial, List.forall_mem_cons.mpr ⟨⟨_, rfl, rfl, zw_853⟩, fun _ h => absurd h List.not_mem_nil⟩⟩⟩⟩⟩⟩
set_option maxRecDepth 100000 in
theorem zq_70_8 : ∀ e ∈ zm_c70_8, zm_okq 70 e.2 := List.forall_mem_cons.mpr ⟨⟨⟨_, _, _, rfl, by decide, zm_f5.1, zm_f5.2.1, zm_f5.2.2, Or.inl ⟨_, zw_735, Or.inl rfl⟩⟩, zm_okw_f rfl rfl rfl zw_735⟩, List.forall_mem_cons.mpr ⟨trivial, List.forall_mem_cons.mpr ⟨trivial, List.forall_mem_cons.mpr ⟨⟨_, rfl, rfl, zw_853⟩, List.forall_mem_cons.mpr ⟨⟨⟨_, _, _, rfl, by decide, zm_f5.1, zm_f5.2.1, zm_f5.2.2, Or.inl ⟨_, zw_736, Or.inl rfl⟩⟩, zm_okw_f rfl rfl rfl zw_736⟩, List.forall_mem_cons.mpr ⟨trivial, fun _ h => absurd h List.not_mem_nil⟩⟩⟩⟩⟩⟩
set_option maxRecDepth 100000 in
theorem zq_70_9 : ∀ e ∈ zm_c70_9, zm_okq 70 e.2 := List.forall_mem_cons.mpr ⟨trivial, List.forall_mem_cons.mpr ⟨⟨_, rfl, rfl, zw_853⟩, List.forall_mem_cons.mpr ⟨⟨⟨_, _, _, rfl, by decide, zm_f5.1, zm_f5.2.1, zm_f5.2.2, Or.inl ⟨_, zw_737, Or.inl rfl⟩⟩, zm_okw_f rfl rfl rfl zw_737⟩, List.forall_mem_cons.mpr ⟨trivial, List.forall_mem_cons.mpr ⟨trivial, List.forall_mem_cons.mpr ⟨⟨_, rfl, rfl, zw_853⟩, fun _ h => absurd h List.not_mem_nil⟩⟩⟩⟩⟩⟩
set_option maxRecDepth 100000 in
theorem zq_70_10 : ∀ e ∈ zm_c70_10, zm_okq 70 e.2 := List.forall_mem_cons.mpr ⟨⟨⟨_, _, _, rfl, by decide, zm_f5.1, zm_f5.2.1, zm_f5.2.2, Or.inl ⟨_, zw_738, Or.inl rfl⟩⟩, zm_okw_f rfl rfl rfl zw_738⟩, List.forall_mem_cons.mpr ⟨trivial, List.forall_mem_cons.mpr ⟨trivial, List.forall_mem_cons.mpr ⟨⟨_, rfl, rfl, zw_853⟩, List.forall_mem_cons.mpr ⟨⟨⟨_, _, _, rfl, by decide, zm_f5.1, zm_f5.2.1, zm_f5.2.2, Or.inl ⟨_, zw_739, Or.inl rfl⟩⟩, zm_okw_f rfl rfl rfl zw_739⟩, List.forall_mem_cons.mpr ⟨trivial, fun _ h => absurd h List.not_mem_nil⟩⟩⟩⟩⟩⟩
set_option maxRecDepth 100000 in
theorem zq_70_11 : ∀ e ∈ zm_c70_11, zm_okq 70 e.2 := List.forall_mem_cons.mpr ⟨trivial, List.forall_mem_cons.mpr ⟨⟨_, rfl, rfl, zw_853⟩, List.forall_mem_cons.mpr ⟨⟨⟨_, _, _, rfl, by decide, zm_f5.1, zm_f5.2.1, zm_f5.2.2, Or.inl ⟨_, zw_740, Or.inl rfl⟩⟩, zm_okw_f rfl rfl rfl zw_740⟩, List.forall_mem_cons.mpr ⟨trivial, List.forall_mem_cons.mpr ⟨trivial, List.forall_mem_cons.mpr ⟨⟨_, rfl, rfl, zw_853⟩, fun _ h => absurd h List.not_mem_nil⟩⟩⟩⟩⟩⟩
set_option maxRecDepth 100000 in
theorem zq_70_12 : ∀ e ∈ zm_c70_12, zm_okq 70 e.2 := List.forall_mem_cons.mpr ⟨⟨⟨_, _, _, rfl, by decide, zm_f5.1, zm_f5.2.1, zm_f5.2.2, Or.inl ⟨_, zw_741, Or.inl rfl⟩⟩, zm_okw_f rfl rfl rfl zw_741⟩, List.forall_mem_cons.mpr ⟨trivial, List.forall_mem_cons.mpr ⟨trivial, List.forall_mem_cons.mpr ⟨⟨_, rfl, rfl, zw_853⟩, List.forall_mem_cons.mpr ⟨⟨⟨_, _, _, rfl, by decide, zm_f5.1, zm_f5.2.1, zm_f5.2.2, Or.inl ⟨_, zw_742, Or.inl rfl⟩⟩, zm_okw_f rfl rfl rfl zw_742⟩, List.forall_mem_cons.mpr ⟨trivial, fun _ h => absurd h List.not_mem_nil⟩⟩⟩⟩⟩⟩
set_option maxRecDepth 100000 in
theorem zq_70_13 : ∀ e ∈ zm_c70_13, zm_okq 70 e.2 := List.forall_mem_cons.mpr ⟨trivial, List.forall_mem_cons.mpr ⟨⟨_, rfl, rfl, zw_853⟩, List.forall_mem_cons.mpr ⟨⟨⟨_, _, _, rfl, by decide, zm_f5.1, zm_f5.2.1, zm_f5.2.2, Or.inl ⟨_, zw_746, Or.inl rfl⟩⟩, zm_okw_f rfl rfl rfl zw_746⟩, List.forall_mem_cons.mpr ⟨trivial, List.forall_mem_cons.mpr ⟨trivial, List.forall_mem_cons.mpr ⟨⟨_, rfl, rfl, zw_853⟩, fun _ h => absurd h List.not_mem_nil⟩⟩⟩⟩⟩⟩
set_option maxRecDepth 100000 in
theorem zq_70_14 : ∀ e ∈ zm_c70_14, zm_okq 70 e.2 := List.forall_mem_cons.mpr ⟨⟨⟨_, _, _, rfl, by decide, zm_f5.1, zm_f5.2.1, zm_f5.2.2, Or.inl ⟨_, zw_747, Or.inl rfl⟩⟩, zm_okw_f rfl rfl rfl zw_747⟩, List.forall_mem_cons.mpr ⟨trivial, List.forall_mem_cons.mpr ⟨trivial, List.forall_mem_cons.mpr ⟨⟨_, rfl, rfl, zw_853⟩, List.forall_mem_cons.mpr ⟨⟨⟨_, _, _, rfl, by decide, zm_f5.1, zm_f5.2.1, zm_f5.2.2, Or.inl ⟨_, zw_748, Or.inl rfl⟩⟩, zm_okw_f rfl rfl rfl zw_748⟩, List.forall_mem_cons.mpr ⟨trivial, fun _ h => absurd h List.not_mem_nil⟩⟩⟩⟩⟩⟩
set_option maxRecDepth 100000 in
theorem zq_70_15 : ∀ e ∈ zm_c70_15, zm_okq 70 e.2 := List.forall_mem_cons.mpr ⟨trivial, List.forall_mem_cons.mpr ⟨⟨_, rfl, rfl, zw_853⟩, List.forall_mem_cons.mpr ⟨⟨⟨_, _, _, rfl, by decide, zm_f5.1, zm_f5.2.1, zm_f5.2.2, Or.inl ⟨_, zw_749, Or.inl rfl⟩⟩, zm_okw_f rfl rfl rfl zw_749⟩, List.forall_mem_cons.mpr ⟨trivial, List.forall_mem_cons.mpr ⟨trivial, List.forall_mem_cons.mpr ⟨⟨_, rfl, rfl, zw_853⟩, fun _ h => absurd h List.not_mem_nil⟩⟩⟩⟩⟩⟩
set_option maxRecDepth 100000 in
theorem zq_70_16 : ∀ e ∈ zm_c70_16, zm_okq 70 e.2 := List.forall_mem_cons.mpr ⟨⟨⟨_, _, _, rfl, by decide, zm_f5.1, zm_f5.2.1, zm_f5.2.2, Or.inl ⟨_, zw_750, Or.inl rfl⟩⟩, zm_okw_f rfl rfl rfl zw_750⟩, List.forall_mem_cons.mpr ⟨trivial, fun _ h => absurd h List.not_mem_nil⟩⟩
set_option maxRecDepth 100000 in
theorem zq_71_0 : ∀ e ∈ zm_c71_0, zm_okq 71 e.2 := List.forall_mem_cons.mpr ⟨trivial, List.forall_mem_cons.mpr ⟨trivial, List.forall_mem_cons.mpr ⟨trivial, List.forall_mem_cons.mpr ⟨trivial, List.forall_mem_cons.mpr ⟨trivial, List.forall_mem_cons.mpr ⟨trivial, fun _ h => absurd h List.not_mem_nil⟩⟩⟩⟩⟩⟩
set_option maxRecDepth 100000 in
theorem zq_71_1 : ∀ e ∈ zm_c71_1, zm_okq 71 e.2 := List.forall_mem_cons.mpr ⟨trivial, List.forall_mem_cons.mpr ⟨trivial, List.forall_mem_cons.mpr ⟨trivial, List.forall_mem_cons.mpr ⟨trivial, List.forall_mem_cons.mpr ⟨trivial, List.forall_mem_cons.mpr ⟨trivial, fun _ h => absurd h List.not_mem_nil⟩⟩⟩⟩⟩⟩
set_option maxRecDepth 100000 in
theorem zq_71_2 : ∀ e ∈ zm_c71_2, zm_okq 71 e.2 := List.forall_mem_cons.mpr ⟨trivial, List.forall_mem_cons.mpr ⟨trivial, List.forall_mem_cons.mpr ⟨trivial, List.forall_mem_cons.mpr ⟨trivial, List.forall_mem_cons.mpr ⟨trivial, List.forall_mem_cons.mpr ⟨trivial, fun _ h => absurd h List.not_mem_nil⟩⟩⟩⟩⟩⟩
set_option maxRecDepth 100000 in
theorem zq_71_3 : ∀ e ∈ zm_c71_3, zm_okq 71 e.2 := List.forall_mem_cons.mpr ⟨trivial, List.forall_mem_cons.mpr ⟨trivial, List.forall_mem_cons.mpr ⟨trivial, List.forall_mem_cons.mpr ⟨trivial, List.forall_mem_cons.mpr ⟨trivial, List.forall_mem_cons.mpr ⟨trivial, fun _ h => absurd h List.not_mem_nil⟩⟩⟩⟩⟩⟩
set_option maxRecDepth 100000 in
theorem zq_71_4 : ∀ e ∈ zm_c71_4, zm_okq 71 e.2 := List.forall_mem_cons.mpr ⟨trivial, List.forall_mem_cons.mpr ⟨trivial, List.forall_mem_cons.mpr ⟨trivial, List.forall_mem_cons.mpr ⟨trivial, List.forall_mem_cons.mpr ⟨trivial, List.forall_mem_cons.mpr ⟨trivial, fun _ h => absurd h List.not_mem_nil⟩⟩⟩⟩⟩⟩
set_option maxRecDepth 100000 in
theorem zq_71_5 : ∀ e ∈ zm_c71_5, zm_okq 71 e.2 := List.forall_mem_cons.mpr ⟨trivial, List.forall_mem_cons.mpr ⟨trivial, List.forall_mem_cons.mpr ⟨trivial, List.forall_mem_cons.mpr ⟨trivial, List.forall_mem_cons.mpr ⟨trivial, List.forall_mem_cons.mpr ⟨trivial, fun _ h => absurd h List.not_mem_nil⟩⟩⟩⟩⟩⟩
set_option maxRecDepth 100000 in
theorem zq_71_6 : ∀ e ∈ zm_c71_6, zm_okq 71 e.2 := List.forall_mem_cons.mpr ⟨⟨_, _, _, rfl, by decide, zm_f5.1, zm_f5.2.1, zm_f5.2.2, Or.inl ⟨_, zw_728, Or.inl rfl⟩⟩, List.forall_mem_cons.mpr ⟨trivial, List.forall_mem_cons.mpr ⟨trivial, List.forall_mem_cons.mpr ⟨trivial, List.forall_mem_cons.mpr ⟨trivial, List.forall_mem_cons.mpr ⟨trivial, fun _ h => absurd h List.not_mem_nil⟩⟩⟩⟩⟩⟩
set_option maxRecDepth 100000 in
theorem zq_71_7 : ∀ e ∈ zm_c71_7, zm_okq 71 e.2 := List.forall_mem_cons.mpr ⟨trivial, List.forall_mem_cons.mpr ⟨trivial, List.forall_mem_cons.mpr ⟨trivial, List.forall_mem_cons.mpr ⟨trivial, List.forall_mem_cons.mpr ⟨trivial, List.forall_mem_cons.mpr ⟨trivial, fun _ h => absurd h List.not_mem_nil⟩⟩⟩⟩⟩⟩
set_option maxRecDepth 100000 in
theorem zq_71_8 : ∀ e ∈ zm_c71_8, zm_okq 71 e.2 := List.forall_mem_cons.mpr ⟨trivial, List.forall_mem_cons.mpr ⟨trivial, List.forall_mem_cons.mpr ⟨trivial, List.forall_mem_cons.mpr ⟨trivial, List.forall_mem_cons.mpr ⟨trivial, List.forall_mem_cons.mpr ⟨trivial, fun _ h => absurd h List.not_mem_nil⟩⟩⟩⟩⟩⟩
set_option maxRecDepth 100000 in
theorem zq_71_9 : ∀ e ∈ zm_c71_9, zm_okq 71 e.2 := List.forall_mem_cons.mpr ⟨trivial, List.forall_mem_cons.mpr ⟨trivial, List.forall_mem_cons.mpr ⟨trivial, List.forall_mem_cons.mpr ⟨trivial, List.forall_mem_cons.mpr ⟨trivial, List.forall_mem_cons.mpr ⟨trivial, fun _ h => absurd h List.not_mem_nil⟩⟩⟩⟩⟩⟩
set_option maxRecDepth 100000 in
theorem zq_71_10 : ∀ e ∈ zm_c71_10, zm_okq 71 e.2 := List.forall_mem_cons.mpr ⟨⟨_, _, _, rfl, by decide, zm_f5.1, zm_f5.2.1, zm_f5.2.2, Or.inl ⟨_, zw_720, Or.inl rfl⟩⟩, List.forall_mem_cons.mpr ⟨trivial, List.forall_mem_cons.mpr ⟨⟨_, _, _, rfl, by decide, zm_f5.1, zm_f5.2.1, zm_f5.2.2, Or.inl ⟨_, zw_728, Or.inl rfl⟩⟩, List.forall_mem_cons.mpr ⟨trivial, List.forall_mem_cons.mpr ⟨trivial, List.forall_mem_cons.mpr ⟨trivial, fun _ h => absurd h List.not_mem_nil⟩⟩⟩⟩⟩⟩
set_option maxRecDepth 100000 in
theorem zq_71_11 : ∀ e ∈ zm_c71_11, zm_okq 71 e.2 := List.forall_mem_cons.mpr ⟨trivial, List.forall_mem_cons.mpr ⟨⟨_, _, _, rfl, by decide, zm_f5.1, zm_f5.2.1, zm_f5.2.2, Or.inl ⟨_, zw_728, Or.inl rfl⟩⟩, List.forall_mem_cons.mpr ⟨trivial, List.forall_mem_cons.mpr ⟨trivial, List.forall_mem_cons.mpr ⟨⟨⟨_, _, _, rfl, by decide, zm_f5.1, zm_f5.2.1, zm_f5.2.2, Or.inl ⟨_, zw_728, Or.inl rfl⟩⟩, zm_okw_n rfl rfl⟩, List.forall_mem_cons.mpr ⟨trivial, fun _ h => absurd h List.not_mem_nil⟩⟩⟩⟩⟩⟩
set_option maxRecDepth 100000 in
theorem zq_71_12 : ∀ e ∈ zm_c71_12, zm_okq 71 e.2 := List.forall_mem_cons.mpr ⟨trivial, List.forall_mem_cons.mpr ⟨trivial, List.forall_mem_cons.mpr ⟨⟨_, _, _, rfl, by decide, zm_f5.1, zm_f5.2.1, zm_f5.2.2, Or.inl ⟨_, zw_728, Or.inl rfl⟩⟩, List.forall_mem_cons.mpr ⟨trivial, fun _ h => absurd h List.not_mem_nil⟩⟩⟩⟩
set_option maxRecDepth 100000 in
theorem zq_72_0 : ∀ e ∈ zm_c72_0, zm_okq 72 e.2 := List.forall_mem_cons.mpr ⟨trivial, List.forall_mem_cons.mpr ⟨trivial, List.forall_mem_cons.mpr ⟨trivial, List.forall_mem_cons.mpr ⟨trivial, List.forall_mem_cons.mpr ⟨trivial, List.forall_mem_cons.mpr ⟨trivial, fun _ h => absurd h List.not_mem_nil⟩⟩⟩⟩⟩⟩
set_option maxRecDepth 100000 in
theorem zq_72_1 : ∀ e ∈ zm_c72_1, zm_okq 72 e.2 := List.forall_mem_cons.mpr ⟨trivial, List.forall_mem_cons.mpr ⟨trivial, List.forall_mem_cons.mpr ⟨trivial, List.forall_mem_cons.mpr ⟨trivial, fun _ h => absurd h List.not_mem_nil⟩⟩⟩⟩
set_option maxRecDepth 100000 in
theorem zq_73_0 : ∀ e ∈ zm_c73_0, zm_okq 73 e.2 := List.forall_mem_cons.mpr ⟨trivial, List.forall_mem_cons.mpr ⟨trivial, List.forall_mem_cons.mpr ⟨trivial, List.forall_mem_cons.mpr ⟨trivial, List.forall_mem_cons.mpr ⟨trivial, List.forall_mem_cons.mpr ⟨trivial, fun _ h => absurd h List.not_mem_nil⟩⟩⟩⟩⟩⟩
set_option maxRecDepth 100000 in
theorem zq_73_1 : ∀ e ∈ zm_c73_1, zm_okq 73 e.2 := List.forall_mem_cons.mpr ⟨⟨⟨_, _, _, rfl, by decide, zm_f5.1, zm_f5.2.1, zm_f5.2.2, Or.inl ⟨_, zw_732, Or.inl rfl⟩⟩, zm_okw_n rfl rfl⟩, List.forall_mem_cons.mpr ⟨trivial, List.forall_mem_cons.mpr ⟨trivial, List.forall_mem_cons.mpr ⟨trivial, List.forall_mem_cons.mpr ⟨trivial, List.forall_mem_cons.mpr ⟨trivial, fun _ h => absurd h List.not_mem_nil⟩⟩⟩⟩⟩⟩
set_option maxRecDepth 100000 in
theorem zq_73_2 : ∀ e ∈ zm_c73_2, zm_okq 73 e.2 := List.forall_mem_cons.mpr ⟨trivial, fun _ h => absurd h List.not_mem_nil⟩
set_option maxRecDepth 100000 in
theorem zq_74_0 : ∀ e ∈ zm_c74_0, zm_okq 74 e.2 := List.forall_mem_cons.mpr ⟨trivial, List.forall_mem_cons.mpr ⟨trivial, List.forall_mem_cons.mpr ⟨⟨⟨_, _, _, rfl, by decide, zm_f5.1, zm_f5.2.1, zm_f5.2.2, Or.inl ⟨_, zw_732, Or.inl rfl⟩⟩, zm_okw_n rfl rfl⟩, List.forall_mem_cons.mpr ⟨trivial, List.forall_mem_cons.mpr ⟨trivial, fun _ h => absurd h List.not_mem_nil⟩⟩⟩⟩⟩
set_option maxRecDepth 100000 in
theorem zq_75_0 : ∀ e ∈ zm_c75_0, zm_okq 75 e.2 := List.forall_mem_cons.mpr ⟨trivial, List.forall_mem_cons.mpr ⟨⟨_, rfl, rfl, zw_853⟩, List.forall_mem_cons.mpr ⟨trivial, List.forall_mem_cons.mpr ⟨trivial, List.forall_mem_cons.mpr ⟨trivial, List.forall_mem_cons.mpr ⟨trivial, fun _ h => absurd h List.not_mem_nil⟩⟩⟩⟩⟩⟩
set_option maxRecDepth 100000 in
theorem zq_75_1 : ∀ e ∈ zm_c75_1, zm_okq 75 e.2 := List.forall_mem_cons.mpr ⟨trivial, List.forall_mem_cons.mpr ⟨trivial, List.forall_mem_cons.mpr ⟨trivial, List.forall_mem_cons.mpr ⟨trivial, List.forall_mem_cons.mpr ⟨trivial, List.forall_mem_cons.mpr ⟨trivial, fun _ h => absurd h List.not_mem_nil⟩⟩⟩⟩⟩⟩
set_option maxRecDepth 100000 in
theorem zq_75_2 : ∀ e ∈ zm_c75_2, zm_okq 75 e.2 := List.forall_mem_cons.mpr ⟨trivial, List.forall_mem_cons.mpr ⟨trivial, List.forall_mem_cons.mpr ⟨trivial, List.forall_mem_cons.mpr ⟨trivial, List.forall_mem_cons.mpr ⟨trivial, List.forall_mem_cons.mpr ⟨trivial, fun _ h => absurd h List.not_mem_nil⟩⟩⟩⟩⟩⟩
set_option maxRecDepth 100000 in
theorem zq_75_3 : ∀ e ∈ zm_c75_3, zm_okq 75 e.2 := List.forall_mem_cons.mpr ⟨trivial, List.forall_mem_cons.mpr ⟨trivial, List.forall_mem_cons.mpr ⟨trivial, List.forall_mem_cons.mpr ⟨⟨⟨_, _, _, rfl, by decide, zm_f5.1, zm_f5.2.1, zm_f5.2.2, Or.inl ⟨_, zw_730, Or.inl rfl⟩⟩, zm_okw_n rfl rfl⟩, List.forall_mem_cons.mpr ⟨trivial, List.forall_mem_cons.mpr ⟨trivial, fun _ h => absurd h List.not_mem_nil⟩⟩⟩⟩⟩⟩
set_option maxRecDepth 100000 in
theorem zq_75_4 : ∀ e ∈ zm_c75_4, zm_okq 75 e.2 := List.forall_mem_cons.mpr ⟨trivial, List.forall_mem_cons.mpr ⟨trivial, List.forall_mem_cons.mpr ⟨trivial, List.forall_mem_cons.mpr ⟨⟨_, _, _, rfl, by decide, zm_f5.1, zm_f5.2.1, zm_f5.2.2, Or.inl ⟨_, zw_730, Or.inl rfl⟩⟩, List.forall_mem_cons.mpr ⟨trivial, List.forall_mem_cons.mpr ⟨trivial, fun _ h => absurd h List.not_mem_nil⟩⟩⟩⟩⟩⟩
set_option maxRecDepth 100000 in
theorem zq_75_5 : ∀ e ∈ zm_c75_5, zm_okq 75 e.2 := List.forall_mem_cons.mpr ⟨trivial, List.forall_mem_cons.mpr ⟨trivial, List.forall_mem_cons.mpr ⟨trivial, List.forall_mem_cons.mpr ⟨trivial, List.forall_mem_cons.mpr ⟨trivial, List.forall_mem_cons.mpr ⟨trivial, fun _ h => absurd h List.not_mem_nil⟩⟩⟩⟩⟩⟩
set_option maxRecDepth 100000 in
theorem zq_75_6 : ∀ e ∈ zm_c75_6, zm_okq 75 e.2 := List.forall_mem_cons.mpr ⟨trivial, List.forall_mem_cons.mpr ⟨trivial, List.forall_mem_cons.mpr ⟨trivial, List.forall_mem_cons.mpr ⟨trivial, List.forall_mem_cons.mpr ⟨trivial, List.forall_mem_cons.mpr ⟨trivial, fun _ h => absurd h List.not_mem_nil⟩⟩⟩⟩⟩⟩
set_option maxRecDepth 100000 in
theorem zq_75_7 : ∀ e ∈ zm_c75_7, zm_okq 75 e.2 := List.forall_mem_cons.mpr ⟨trivial, List.forall_mem_cons.mpr ⟨⟨_, _, _, rfl, by decide, zm_f5.1, zm_f5.2.1, zm_f5.2.2, Or.inl ⟨_, zw_730, Or.inl rfl⟩⟩, List.forall_mem_cons.mpr ⟨⟨⟨_, _, _, rfl, by decide, zm_f5.1, zm_f5.2.1, zm_f5.2.2, Or.inl ⟨_, zw_729, Or.inl rfl⟩⟩, zm_okw_n rfl rfl⟩, List.forall_mem_cons.mpr ⟨trivial, List.forall_mem_cons.mpr ⟨⟨_, _, _, rfl, by decide, zm_f5.1, zm_f5.2.1, zm_f5.2.2, Or.inl ⟨_, zw_728, Or.inl rfl⟩⟩, List.forall_mem_cons.mpr ⟨trivial, fun _ h => absurd h List.not_mem_nil⟩⟩⟩⟩⟩⟩
set_option maxRecDepth 100000 in
theorem zq_75_8 : ∀ e ∈ zm_c75_8, zm_okq 75 e.2 := List.forall_mem_cons.mpr ⟨trivial, List.forall_mem_cons.mpr ⟨trivial, List.forall_mem_cons.mpr ⟨trivial, List.forall_mem_cons.mpr ⟨⟨_, _, _, rfl, by decide, zm_f5.1, zm_f5.2.1, zm_f5.2.2, Or.inl ⟨_, zw_720, Or.inl rfl⟩⟩, List.forall_mem_cons.mpr ⟨trivial, List.forall_mem_cons.mpr ⟨trivial, fun _ h => absurd h List.not_mem_nil⟩⟩⟩⟩⟩⟩
set_option maxRecDepth 100000 in
theorem zq_75_9 : ∀ e ∈ zm_c75_9, zm_okq 75 e.2 := List.forall_mem_cons.mpr ⟨trivial, List.forall_mem_cons.mpr ⟨trivial, List.forall_mem_cons.mpr ⟨trivial, List.forall_mem_cons.mpr ⟨trivial, List.forall_mem_cons.mpr ⟨⟨_, _, _, rfl, by decide, zm_f5.1, zm_f5.2.1, zm_f5.2.2, Or.inl ⟨_, zw_723, Or.inl rfl⟩⟩, List.forall_mem_cons.mpr ⟨trivial, fun _ h => absurd h List.not_mem_nil⟩⟩⟩⟩⟩⟩
set_option maxRecDepth 100000 in
theorem zq_75_10 : ∀ e ∈ zm_c75_10, zm_okq 75 e.2 := List.forall_mem_cons.mpr ⟨trivial, List.forall_mem_cons.mpr ⟨trivial, List.forall_mem_cons.mpr ⟨trivial, List.forall_mem_cons.mpr ⟨trivial, List.forall_mem_cons.mpr ⟨trivial, List.forall_mem_cons.mpr ⟨⟨_, _, _, rfl, by decide, zm_f5.1, zm_f5.2.1, zm_f5.2.2, Or.inl ⟨_, zw_725, Or.inl rfl⟩⟩, fun _ h => absurd h List.not_mem_nil⟩⟩⟩⟩⟩⟩
set_option maxRecDepth 100000 in
theorem zq_75_11 : ∀ e ∈ zm_c75_11, zm_okq 75 e.2 := List.forall_mem_cons.mpr ⟨trivial, List.forall_mem_cons.mpr ⟨trivial, List.forall_mem_cons.mpr ⟨trivial, List.forall_mem_cons.mpr ⟨trivial, List.forall_mem_cons.mpr ⟨trivial, List.forall_mem_cons.mpr ⟨trivial, fun _ h => absurd h List.not_mem_nil⟩⟩⟩⟩⟩⟩
set_option maxRecDepth 100000 in
theorem zq_75_12 : ∀ e ∈ zm_c75_12, zm_okq 75 e.2 := List.forall_mem_cons.mpr ⟨trivial, List.forall_mem_cons.mpr ⟨trivial, List.forall_mem_cons.mpr ⟨trivial, List.forall_mem_cons.mpr ⟨trivial, List.forall_mem_cons.mpr ⟨trivial, List.forall_mem_cons.mpr ⟨⟨_, _, _, rfl, by decide, zm_f5.1, zm_f5.2.1, zm_f5.2.2, Or.inl ⟨_, zw_724, Or.inl rfl⟩⟩, fun _ h => absurd h List.not_mem_nil⟩⟩⟩⟩⟩⟩
set_option maxRecDepth 100000 in
theorem zq_75_13 : ∀ e ∈ zm_c75_13, zm_okq 75 e.2 := List.forall_mem_cons.mpr ⟨trivial, List.forall_mem_cons.mpr ⟨trivial, List.forall_mem_cons.mpr ⟨trivial, List.forall_mem_cons.mpr ⟨trivial, List.forall_mem_cons.mpr ⟨trivial, List.forall_mem_cons.mpr ⟨trivial, fun _ h => absurd h List.not_mem_nil⟩⟩⟩⟩⟩⟩
set_option maxRecDepth 100000 in
theorem zq_75_14 : ∀ e ∈ zm_c75_14, zm_okq 75 e.2 := List.forall_mem_cons.mpr ⟨trivial, List.forall_mem_cons.mpr ⟨trivial, List.forall_mem_cons.mpr ⟨trivial, List.forall_mem_cons.mpr ⟨trivial, List.forall_mem_cons.mpr ⟨trivial, List.forall_mem_cons.mpr ⟨trivial, fun _ h => absurd h List.not_mem_nil⟩⟩⟩⟩⟩⟩
set_option maxRecDepth 100000 in
theorem zq_75_15 : ∀ e ∈ zm_c75_15, zm_okq 75 e.2 := List.forall_mem_cons.mpr ⟨⟨_, _, _, rfl, by decide, zm_f5.1, zm_f5.2.1, zm_f5.2.2, Or.inl ⟨_, zw_727, Or.inl rfl⟩⟩, List.forall_mem_cons.mpr ⟨trivial, List.forall_mem_cons.mpr ⟨trivial, List.forall_mem_cons.mpr ⟨trivial, List.forall_mem_cons.mpr ⟨trivial, List.forall_mem_cons.mpr ⟨trivial, fun _ h => absurd h List.not_mem_nil⟩⟩⟩⟩⟩⟩
set_option maxRecDepth 100000 in
theorem zq_75_16 : ∀ e ∈ zm_c75_16, zm_okq 75 e.2 := List.forall_mem_cons.mpr ⟨⟨⟨_, _, _, rfl, by decide, zm_f5.1, zm_f5.2.1, zm_f5.2.2, Or.inl ⟨_, zw_728, Or.inl rfl⟩⟩, zm_okw_n rfl rfl⟩, List.forall_mem_cons.mpr ⟨trivial, List.forall_mem_cons.mpr ⟨trivial, List.forall_mem_cons.mpr ⟨trivial, List.forall_mem_cons.mpr ⟨trivial, List.forall_mem_cons.mpr ⟨trivial, fun _ h => absurd h List.not_mem_nil⟩⟩⟩⟩⟩⟩
set_option maxRecDepth 100000 in
theorem zq_75_17 : ∀ e ∈ zm_c75_17, zm_okq 75 e.2 := List.forall_mem_cons.mpr ⟨trivial, List.forall_mem_cons.mpr ⟨trivial, List.forall_mem_cons.mpr ⟨trivial, List.forall_mem_cons.mpr ⟨trivial, List.forall_mem_cons.mpr ⟨trivial, List.forall_mem_cons.mpr ⟨trivial, fun _ h => absurd h List.not_mem_nil⟩⟩⟩⟩⟩⟩
set_option maxRecDepth 100000 in
theorem zq_75_18 : ∀ e ∈ zm_c75_18, zm_okq 75 e.2 := List.forall_mem_cons.mpr ⟨trivial, fun _ h => absurd h List.not_mem_nil⟩
set_option maxRecDepth 100000 in
theorem zq_76_0 : ∀ e ∈ zm_c76_0, zm_okq 76 e.2 := List.forall_mem_cons.mpr ⟨trivial, List.forall_mem_cons.mpr ⟨trivial, List.forall_mem_cons.mpr ⟨trivial, List.forall_mem_cons.mpr ⟨trivial, List.forall_mem_cons.mpr ⟨trivial, List.forall_mem_cons.mpr ⟨trivial, fun _ h => absurd h List.not_mem_nil⟩⟩⟩⟩⟩⟩
set_option maxRecDepth 100000 in
theorem zq_76_1 : ∀ e ∈ zm_c76_1, zm_okq 76 e.2 := List.forall_mem_cons.mpr ⟨trivial, List.forall_mem_cons.mpr ⟨trivial, List.forall_mem_cons.mpr ⟨trivial, List.forall_mem_cons.mpr ⟨trivial, List.forall_mem_cons.mpr ⟨trivial, List.forall_mem_cons.mpr ⟨trivial, fun _ h => absurd h List.not_mem_nil⟩⟩⟩⟩⟩⟩
set_option maxRecDepth 100000 in
theorem zq_76_2 : ∀ e ∈ zm_c76_2, zm_okq 76 e.2 := List.forall_mem_cons.mpr ⟨trivial, List.forall_mem_cons.mpr ⟨trivial, List.forall_mem_cons.mpr ⟨⟨_, _, _, rfl, by decide, zm_f5.1, zm_f5.2.1, zm_f5.2.2, Or.inl ⟨_, zw_730, Or.inl rfl⟩⟩, List.forall_mem_cons.mpr ⟨trivial, List.forall_mem_cons.mpr ⟨trivial, List.forall_mem_cons.mpr ⟨⟨⟨_, _, _, rfl, by decide, zm_f5.1, zm_f5.2.1, zm_f5.2.2, Or.inl ⟨_, zw_730, Or.inl rfl⟩⟩, zm_okw_n rfl rfl⟩, fun _ h => absurd h List.not_mem_nil⟩⟩⟩⟩⟩⟩
set_option maxRecDepth 100000 in
theorem zq_76_3 : ∀ e ∈ zm_c76_3, zm_okq 76 e.2 := List.forall_mem_cons.mpr ⟨trivial, List.forall_mem_cons.mpr ⟨trivial, List.forall_mem_cons.mpr ⟨trivial, List.forall_mem_cons.mpr ⟨trivial, List.forall_mem_cons.mpr ⟨trivial, List.forall_mem_cons.mpr ⟨trivial, fun _ h => absurd h List.not_mem_nil⟩⟩⟩⟩⟩⟩
set_option maxRecDepth 100000 in
theorem zq_76_4 : ∀ e ∈ zm_c76_4, zm_okq 76 e.2 := List.forall_mem_cons.mpr ⟨trivial, List.forall_mem_cons.mpr ⟨trivial, List.forall_mem_cons.mpr ⟨trivial, List.forall_mem_cons.mpr ⟨trivial, List.forall_mem_cons.mpr ⟨trivial, List.forall_mem_cons.mpr ⟨trivial, fun _ h => absurd h List.not_mem_nil⟩⟩⟩⟩⟩⟩
set_option maxRecDepth 100000 in
theorem zq_76_5 : ∀ e ∈ zm_c76_5, zm_okq 76 e.2 := List.forall_mem_cons.mpr ⟨trivial, List.forall_mem_cons.mpr ⟨trivial, List.forall_mem_cons.mpr ⟨trivial, List.forall_mem_cons.mpr ⟨trivial, List.forall_mem_cons.mpr ⟨trivial, List.forall_mem_cons.mpr ⟨trivial, fun _ h => absurd h List.not_mem_nil⟩⟩⟩⟩⟩⟩
set_option maxRecDepth 100000 in
theorem zq_76_6 : ∀ e ∈ zm_c76_6, zm_okq 76 e.2 := List.forall_mem_cons.mpr ⟨trivial, List.forall_mem_cons.mpr ⟨trivial, List.forall_mem_cons.mpr ⟨trivial, List.forall_mem_cons.mpr ⟨trivial, List.forall_mem_cons.mpr ⟨trivial, List.forall_mem_cons.mpr ⟨trivial, fun _ h => absurd h List.not_mem_nil⟩⟩⟩⟩⟩⟩
set_option maxRecDepth 100000 in
theorem zq_76_7 : ∀ e ∈ zm_c76_7, zm_okq 76 e.2 := List.forall_mem_cons.mpr ⟨trivial, List.forall_mem_cons.mpr ⟨trivial, List.forall_mem_cons.mpr ⟨trivial, List.forall_mem_cons.mpr ⟨trivial, List.forall_mem_cons.mpr ⟨trivial, List.forall_mem_cons.mpr ⟨trivial, fun _ h => absurd h List.not_mem_nil⟩⟩⟩⟩⟩⟩
set_option maxRecDepth 100000 in
theorem zq_76_8 : ∀ e ∈ zm_c76_8, zm_okq 76 e.2 := List.forall_mem_cons.mpr ⟨trivial, List.forall_mem_cons.mpr ⟨trivial, List.forall_mem_cons.mpr ⟨trivial, List.forall_mem_cons.mpr ⟨trivial, List.forall_mem_cons.mpr ⟨trivial, List.forall_mem_cons.mpr ⟨⟨_, _, _, rfl, by decide, zm_f5.1, zm_f5.2.1, zm_f5.2.2, Or.inl ⟨_, zw_730, Or.inl rfl⟩⟩, fun _ h => absurd h List.not_mem_nil⟩⟩⟩⟩⟩⟩
set_option maxRecDepth 100000 in
theorem zq_76_9 : ∀ e ∈ zm_c76_9, zm_okq 76 e.2 := List.forall_mem_cons.mpr ⟨trivial, List.forall_mem_cons.mpr ⟨trivial, List.forall_mem_cons.mpr ⟨⟨⟨_, _, _, rfl, by decide, zm_f5.1, zm_f5.2.1, zm_f5.2.2, Or.inl ⟨_, zw_730, Or.inl rfl⟩⟩, zm_okw_n rfl rfl⟩, List.forall_mem_cons.mpr ⟨trivial, List.forall_mem_cons.mpr ⟨trivial, List.forall_mem_cons.mpr ⟨trivial, fun _ h => absurd h List.not_mem_nil⟩⟩⟩⟩⟩⟩
set_option maxRecDepth 100000 in
theorem zq_76_10 : ∀ e ∈ zm_c76_10, zm_okq 76 e.2 := List.forall_mem_cons.mpr ⟨trivial, List.forall_mem_cons.mpr ⟨trivial, List.forall_mem_cons.mpr ⟨trivial, List.forall_mem_cons.mpr ⟨trivial, List.forall_mem_cons.mpr ⟨trivial, List.forall_mem_cons.mpr ⟨trivial, fun _ h => absurd h List.not_mem_nil⟩⟩⟩⟩⟩⟩
set_option maxRecDepth 100000 in
theorem zq_76_11 : ∀ e ∈ zm_c76_11, zm_okq 76 e.2 := List.forall_mem_cons.mpr ⟨⟨_, _, _, rfl, by decide, zm_f5.1, zm_f5.2.1, zm_f5.2.2, Or.inl ⟨_, zw_730, Or.inl rfl⟩⟩, List.forall_mem_cons.mpr ⟨trivial, List.forall_mem_cons.mpr ⟨trivial, List.forall_mem_cons.mpr ⟨⟨⟨_, _, _, rfl, by decide, zm_f5.1, zm_f5.2.1, zm_f5.2.2, Or.inl ⟨_, zw_730, Or.inl rfl⟩⟩, zm_okw_n rfl rfl⟩, List.forall_mem_cons.mpr ⟨trivial, List.forall_mem_cons.mpr ⟨trivial, fun _ h => absurd h List.not_mem_nil⟩⟩⟩⟩⟩⟩
set_option maxRecDepth 100000 in
theorem zq_77_0 : ∀ e ∈ zm_c77_0, zm_okq 77 e.2 := List.forall_mem_cons.mpr ⟨trivial, List.forall_mem_cons.mpr ⟨⟨_, _, _, rfl, by decide, zm_f5.1, zm_f5.2.1, zm_f5.2.2, Or.inl ⟨_, zw_730, Or.inl rfl⟩⟩, List.forall_mem_cons.mpr ⟨trivial, List.forall_mem_cons.mpr ⟨⟨_, _, _, rfl, by decide, zm_f5.1, zm_f5.2.1, zm_f5.2.2, Or.inl ⟨_, zw_728, Or.inl rfl⟩⟩, List.forall_mem_cons.mpr ⟨trivial, List.forall_mem_cons.mpr ⟨trivial, fun _ h => absurd h List.not_mem_nil⟩⟩⟩⟩⟩⟩
set_option maxRecDepth 100000 in
theorem zq_77_1 : ∀ e ∈ zm_c77_1, zm_okq 77 e.2 := List.forall_mem_cons.mpr ⟨⟨_, _, _, rfl, by decide, zm_f5.1, zm_f5.2.1, zm_f5.2.2, Or.inl ⟨_, zw_720, Or.inl rfl⟩⟩, List.forall_mem_cons.mpr ⟨trivial, List.forall_mem_cons.mpr ⟨⟨_, _, _, rfl, by decide, zm_f5.1, zm_f5.2.1, zm_f5.2.2, Or.inl ⟨_, zw_730, Or.inl rfl⟩⟩, List.forall_mem_cons.mpr ⟨trivial, List.forall_mem_cons.mpr ⟨trivial, List.forall_mem_cons.mpr ⟨trivial, fun _ h => absurd h List.not_mem_nil⟩⟩⟩⟩⟩⟩
set_option maxRecDepth 100000 in
theorem zq_77_2 : ∀ e ∈ zm_c77_2, zm_okq 77 e.2 := List.forall_mem_cons.mpr ⟨trivial, fun _ h => absurd h List.not_mem_nil⟩
set_option maxRecDepth 100000 in
theorem zq_78_0 : ∀ e ∈ zm_c78_0, zm_okq 78 e.2 := List.forall_mem_cons.mpr ⟨trivial, List.forall_mem_cons.mpr ⟨trivial, List.forall_mem_cons.mpr ⟨trivial, List.forall_mem_cons.mpr ⟨⟨_, _, _, rfl, by decide, zm_f5.1, zm_f5.2.1, zm_f5.2.2, Or.inl ⟨_, zw_726, Or.inl rfl⟩⟩, List.forall_mem_cons.mpr ⟨trivial, List.forall_mem_cons.mpr ⟨trivial, fun _ h => absurd h List.not_mem_nil⟩⟩⟩⟩⟩⟩
set_option maxRecDepth 100000 in
theorem zq_78_1 : ∀ e ∈ zm_c78_1, zm_okq 78 e.2 := List.forall_mem_cons.mpr ⟨trivial, List.forall_mem_cons.mpr ⟨trivial, List.forall_mem_cons.mpr ⟨trivial, List.forall_mem_cons.mpr ⟨trivial, List.forall_mem_cons.mpr ⟨trivial, List.forall_mem_cons.mpr ⟨trivial, fun _ h => absurd h List.not_mem_nil⟩⟩⟩⟩⟩⟩
set_option maxRecDepth 100000 in
theorem zq_78_2 : ∀ e ∈ zm_c78_2, zm_okq 78 e.2 := List.forall_mem_cons.mpr ⟨trivial, List.forall_mem_cons.mpr ⟨trivial, List.forall_mem_cons.mpr ⟨trivial, List.forall_mem_cons.mpr ⟨trivial, List.forall_mem_cons.mpr ⟨trivial, List.forall_mem_cons.mpr ⟨trivial, fun _ h => absurd h List.not_mem_nil⟩⟩⟩⟩⟩⟩
set_option maxRecDepth 100000 in
theorem zq_78_3 : ∀ e ∈ zm_c78_3, zm_okq 78 e.2 := List.forall_mem_cons.mpr ⟨trivial, List.forall_mem_cons.mpr ⟨trivial, List.forall_mem_cons.mpr ⟨trivial, List.forall_mem_cons.mpr ⟨trivial, List.forall_mem_cons.mpr ⟨trivial, List.forall_mem_cons.mpr ⟨trivial, fun _ h => absurd h List.not_mem_nil⟩⟩⟩⟩⟩⟩
set_option maxRecDepth 100000 in
theorem zq_78_4 : ∀ e ∈ zm_c78_4, zm_okq 78 e.2 := List.forall_mem_cons.mpr ⟨trivial, List.forall_mem_cons.mpr ⟨trivial, List.forall_mem_cons.mpr ⟨trivial, List.forall_mem_cons.mpr ⟨trivial, List.forall_mem_cons.mpr ⟨trivial, List.forall_mem_cons.mpr ⟨trivial, fun _ h => absurd h List.not_mem_nil⟩⟩⟩⟩⟩⟩
set_option maxRecDepth 100000 in
theorem zq_78_5 : ∀ e ∈ zm_c78_5, zm_okq 78 e.2 := List.forall_mem_cons.mpr ⟨trivial, List.forall_mem_cons.mpr ⟨trivial, List.forall_mem_cons.mpr ⟨trivial, List.forall_mem_cons.mpr ⟨trivial, List.forall_mem_cons.mpr ⟨trivial, List.forall_mem_cons.mpr ⟨trivial, fun _ h => absurd h List.not_mem_nil⟩⟩⟩⟩⟩⟩
set_option maxRecDepth 100000 in
theorem zq_78_6 : ∀ e ∈ zm_c78_6, zm_okq 78 e.2 := List.forall_mem_cons.mpr ⟨trivial, List.forall_mem_cons.mpr ⟨trivial, List.forall_mem_cons.mpr ⟨trivial, List.forall_mem_cons.mpr ⟨⟨_, _, _, rfl, by decide, zm_f5.1, zm_f5.2.1, zm_f5.2.2, Or.inl ⟨_, zw_730, Or.inl rfl⟩⟩, List.forall_mem_cons.mpr ⟨trivial, List.forall_mem_cons.mpr ⟨trivial, fun _ h => absurd h List.not_mem_nil⟩⟩⟩⟩⟩⟩
set_option maxRecDepth 100000 in
theorem zq_78_7 : ∀ e ∈ zm_c78_7, zm_okq 78 e.2 := List.forall_mem_cons.mpr ⟨⟨⟨_, _, _, rfl, by decide, zm_f5.1, zm_f5.2.1, zm_f5.2.2, Or.inl ⟨_, zw_730, Or.inl rfl⟩⟩, zm_okw_n rfl rfl⟩, List.forall_mem_cons.mpr ⟨trivial, List.forall_mem_cons.mpr ⟨⟨_, _, _, rfl, by decide, zm_f5.1, zm_f5.2.1, zm_f5.2.2, Or.inl ⟨_, zw_726, Or.inl rfl⟩⟩, List.forall_mem_cons.mpr ⟨trivial, List.forall_mem_cons.mpr ⟨trivial, List.forall_mem_cons.mpr ⟨trivial, fun _ h => absurd h List.not_mem_nil⟩⟩⟩⟩⟩⟩
set_option maxRecDepth 100000 in
theorem zq_78_8 : ∀ e ∈ zm_c78_8, zm_okq 78 e.2 := List.forall_mem_cons.mpr ⟨trivial, List.forall_mem_cons.mpr ⟨trivial, List.forall_mem_cons.mpr ⟨trivial, List.forall_mem_cons.mpr ⟨trivial, List.forall_mem_cons.mpr ⟨trivial, List.forall_mem_cons.mpr ⟨trivial, fun _ h => absurd h List.not_mem_nil⟩⟩⟩⟩⟩⟩
set_option maxRecDepth 100000 in
theorem zq_78_9 : ∀ e ∈ zm_c78_9, zm_okq 78 e.2 := List.forall_mem_cons.mpr ⟨trivial, List.forall_mem_cons.mpr ⟨⟨_, _, _, rfl, by decide, zm_f5.1, zm_f5.2.1, zm_f5.2.2, Or.inl ⟨_, zw_726, Or.inl rfl⟩⟩, List.forall_mem_cons.mpr ⟨trivial, List.forall_mem_cons.mpr ⟨trivial, List.forall_mem_cons.mpr ⟨trivial, List.forall_mem_cons.mpr ⟨trivial, fun _ h => absurd h List.not_mem_nil⟩⟩⟩⟩⟩⟩
set_option maxRecDepth 100000 in
theorem zq_78_10 : ∀ e ∈ zm_c78_10, zm_okq 78 e.2 := List.forall_mem_cons.mpr ⟨trivial, List.forall_mem_cons.mpr ⟨trivial, List.forall_mem_cons.mpr ⟨⟨_, _, _, rfl, by decide, zm_f5.1, zm_f5.2.1, zm_f5.2.2, Or.inl ⟨_, zw_726, Or.inl rfl⟩⟩, List.forall_mem_cons.mpr ⟨trivial, List.forall_mem_cons.mpr ⟨trivial, List.forall_mem_cons.mpr ⟨trivial, fun _ h => absurd h List.not_mem_nil⟩⟩⟩⟩⟩⟩
set_option maxRecDepth 100000 in
theorem zq_78_11 : ∀ e ∈ zm_c78_11, zm_okq 78 e.2 := List.forall_mem_cons.mpr ⟨trivial, List.forall_mem_cons.mpr ⟨trivial, List.forall_mem_cons.mpr ⟨trivial, List.forall_mem_cons.mpr ⟨trivial, List.forall_mem_cons.mpr ⟨⟨_, _, _, rfl, by decide, zm_f5.1, zm_f5.2.1, zm_f5.2.2, Or.inl ⟨_, zw_730, Or.inl rfl⟩⟩, List.forall_mem_cons.mpr ⟨trivial, fun _ h => absurd h List.not_mem_nil⟩⟩⟩⟩⟩⟩
set_option maxRecDepth 100000 in
theorem zq_78_12 : ∀ e ∈ zm_c78_12, zm_okq 78 e.2 := List.forall_mem_cons.mpr ⟨⟨_, _, _, rfl, by decide, zm_f5.1, zm_f5.2.1, zm_f5.2.2, Or.inl ⟨_, zw_728, Or.inl rfl⟩⟩, List.forall_mem_cons.mpr ⟨trivial, List.forall_mem_cons.mpr ⟨trivial, List.forall_mem_cons.mpr ⟨trivial, List.forall_mem_cons.mpr ⟨trivial, List.forall_mem_cons.mpr ⟨trivial, fun _ h => absurd h List.not_mem_nil⟩⟩⟩⟩⟩⟩
set_option maxRecDepth 100000 in
theorem zq_79_0 : ∀ e ∈ zm_c79_0, zm_okq 79 e.2 := List.forall_mem_cons.mpr ⟨trivial, List.forall_mem_cons.mpr ⟨trivial, List.forall_mem_cons.mpr ⟨trivial, List.forall_mem_cons.mpr ⟨trivial, List.forall_mem_cons.mpr ⟨trivial, List.forall_mem_cons.mpr ⟨trivial, fun _ h => absurd h List.not_mem_nil⟩⟩⟩⟩⟩⟩
set_option maxRecDepth 100000 in
theorem zq_79_1 : ∀ e ∈ zm_c79_1, zm_okq 79 e.2 := List.forall_mem_cons.mpr ⟨trivial, List.forall_mem_cons.mpr ⟨trivial, List.forall_mem_cons.mpr ⟨trivial, List.forall_mem_cons.mpr ⟨trivial, List.forall_mem_cons.mpr ⟨trivial, List.forall_mem_cons.mpr ⟨trivial, fun _ h => absurd h List.not_mem_nil⟩⟩⟩⟩⟩⟩
set_option maxRecDepth 100000 in
theorem zq_79_2 : ∀ e ∈ zm_c79_2, zm_okq 79 e.2 := List.forall_mem_cons.mpr ⟨trivial, List.forall_mem_cons.mpr ⟨trivial, List.forall_mem_cons.mpr ⟨trivial, List.forall_mem_cons.mpr ⟨trivial, List.forall_mem_cons.mpr ⟨trivial, List.forall_mem_cons.mpr ⟨trivial, fun _ h => absurd h List.not_mem_nil⟩⟩⟩⟩⟩⟩
set_option maxRecDepth 100000 in
theorem zq_79_3 : ∀ e ∈ zm_c79_3, zm_okq 79 e.2 := List.forall_mem_cons.mpr ⟨trivial, List.forall_mem_cons.mpr ⟨trivial, List.forall_mem_cons.mpr ⟨trivial, List.forall_mem_cons.mpr ⟨trivial, List.forall_mem_cons.mpr ⟨trivial, List.forall_mem_cons.mpr ⟨trivial, fun _ h => absurd h List.not_mem_nil⟩⟩⟩⟩⟩⟩
set_option maxRecDepth 100000 in
theorem zq_79_4 : ∀ e ∈ zm_c79_4, zm_okq 79 e.2 := List.forall_mem_cons.mpr ⟨trivial, List.forall_mem_cons.mpr ⟨trivial, List.forall_mem_cons.mpr ⟨trivial, List.forall_mem_cons.mpr ⟨trivial, List.forall_mem_cons.mpr ⟨trivial, List.forall_mem_cons.mpr ⟨trivial, fun _ h => absurd h List.not_mem_nil⟩⟩⟩⟩⟩⟩
set_option maxRecDepth 100000 in
theorem zq_79_5 : ∀ e ∈ zm_c79_5, zm_okq 79 e.2 := List.forall_mem_cons.mpr ⟨trivial, List.forall_mem_cons.mpr ⟨trivial, List.forall_mem_cons.mpr ⟨trivial, List.forall_mem_cons.mpr ⟨trivial, List.forall_mem_cons.mpr ⟨trivial, List.forall_mem_cons.mpr ⟨trivial, fun _ h => absurd h List.not_mem_nil⟩⟩⟩⟩⟩⟩
set_option maxRecDepth 100000 in
theorem zq_79_6 : ∀ e ∈ zm_c79_6, zm_okq 79 e.2 := List.forall_mem_cons.mpr ⟨trivial, List.forall_mem_cons.mpr ⟨trivial, List.forall_mem_cons.mpr ⟨trivial, List.forall_mem_cons.mpr ⟨trivial, List.forall_mem_cons.mpr ⟨trivial, List.forall_mem_cons.mpr ⟨trivial, fun _ h => absurd h List.not_mem_nil⟩⟩⟩⟩⟩⟩
set_option maxRecDepth 100000 in
theorem zq_79_7 : ∀ e ∈ zm_c79_7, zm_okq 79 e.2 := List.forall_mem_cons.mpr ⟨trivial, List.forall_mem_cons.mpr ⟨trivial, List.forall_mem_cons.mpr ⟨trivial, List.forall_mem_cons.mpr ⟨trivial, List.forall_mem_cons.mpr ⟨trivial, List.forall_mem_cons.mpr ⟨trivial, fun _ h => absurd h List.not_mem_nil⟩⟩⟩⟩⟩⟩
set_option maxRecDepth 100000 in
theorem zq_79_8 : ∀ e ∈ zm_c79_8, zm_okq 79 e.2 := List.forall_mem_cons.mpr ⟨trivial, List.forall_mem_cons.mpr ⟨trivial, List.forall_mem_cons.mpr ⟨trivial, List.forall_mem_cons.mpr ⟨trivial, List.forall_mem_cons.mpr ⟨trivial, List.forall_mem_cons.mpr ⟨trivial, fun _ h => absurd h List.not_mem_nil⟩⟩⟩⟩⟩⟩
set_option maxRecDepth 100000 in
theorem zq_79_9 : ∀ e ∈ zm_c79_9, zm_okq 79 e.2 := List.forall_mem_cons.mpr ⟨trivial, List.forall_mem_cons.mpr ⟨trivial, List.forall_mem_cons.mpr ⟨trivial, List.forall_mem_cons.mpr ⟨trivial, List.forall_mem_cons.mpr ⟨trivial, List.forall_mem_cons.mpr ⟨trivial, fun _ h => absurd h List.not_mem_nil⟩⟩⟩⟩⟩⟩
set_option maxRecDepth 100000 in
theorem zq_79_10 : ∀ e ∈ zm_c79_10, zm_okq 79 e.2 := List.forall_mem_cons.mpr ⟨trivial, List.forall_mem_cons.mpr ⟨trivial, List.forall_mem_cons.mpr ⟨trivial, List.forall_mem_cons.mpr ⟨trivial, List.forall_mem_cons.mpr ⟨trivial, List.forall_mem_cons.mpr ⟨trivial, fun _ h => absurd h List.not_mem_nil⟩⟩⟩⟩⟩⟩
set_option maxRecDepth 100000 in
theorem zq_79_11 : ∀ e ∈ zm_c79_11, zm_okq 79 e.2 := List.forall_mem_cons.mpr ⟨trivial, fun _ h => absurd h List.not_mem_nil⟩
set_option maxRecDepth 100000 in
theorem zq_80_0 : ∀ e ∈ zm_c80_0, zm_okq 80 e.2 := List.forall_mem_cons.mpr ⟨trivial, List.forall_mem_cons.mpr ⟨⟨_, _, _, rfl, by decide, zm_f5.1, zm_f5.2.1, zm_f5.2.2, Or.inl ⟨_, zw_731, Or.inl rfl⟩⟩, List.forall_mem_cons.mpr ⟨trivial, List.forall_mem_cons.mpr ⟨trivial, List.forall_mem_cons.mpr ⟨trivial, List.forall_mem_cons.mpr ⟨trivial, fun _ h => absurd h List.not_mem_nil⟩⟩⟩⟩⟩⟩
set_option maxRecDepth 100000 in
theorem zq_80_1 : ∀ e ∈ zm_c80_1, zm_okq 80 e.2 := List.forall_mem_cons.mpr ⟨trivial, List.forall_mem_cons.mpr ⟨⟨_, _, _, rfl, by decide, zm_f5.1, zm_f5.2.1, zm_f5.2.2, Or.inl ⟨_, zw_728, Or.inl rfl⟩⟩, List.forall_mem_cons.mpr ⟨trivial, List.forall_mem_cons.mpr ⟨trivial, List.forall_mem_cons.mpr ⟨⟨_, _, _, rfl, by decide, zm_f5.1, zm_f5.2.1, zm_f5.2.2, Or.inl ⟨_, zw_721, Or.inl rfl⟩⟩, List.forall_mem_cons.mpr ⟨trivial, fun _ h => absurd h List.not_mem_nil⟩⟩⟩⟩⟩⟩
set_option maxRecDepth 100000 in
theorem zq_80_2 : ∀ e ∈ zm_c80_2, zm_okq 80 e.2 := List.forall_mem_cons.mpr ⟨⟨_, _, _, rfl, by decide, zm_f5.1, zm_f5.2.1, zm_f5.2.2, Or.inl ⟨_, zw_731, Or.inl rfl⟩⟩, List.forall_mem_cons.mpr ⟨trivial, List.forall_mem_cons.mpr ⟨⟨_, _, _, rfl, by decide, zm_f5.1, zm_f5.2.1, zm_f5.2.2, Or.inl ⟨_, zw_720, Or.inl rfl⟩⟩, List.forall_mem_cons.mpr ⟨trivial, List.forall_mem_cons.mpr ⟨trivial, List.forall_mem_cons.mpr ⟨trivial, fun _ h => absurd h List.not_mem_nil⟩⟩⟩⟩⟩⟩
set_option maxRecDepth 100000 in
theorem zq_80_3 : ∀ e ∈ zm_c80_3, zm_okq 80 e.2 := List.forall_mem_cons.mpr ⟨trivial, List.forall_mem_cons.mpr ⟨trivial, List.forall_mem_cons.mpr ⟨⟨_, _, _, rfl, by decide, zm_f5.1, zm_f5.2.1, zm_f5.2.2, Or.inl ⟨_, zw_731, Or.inl rfl⟩⟩, List.forall_mem_cons.mpr ⟨trivial, List.forall_mem_cons.mpr ⟨trivial, List.forall_mem_cons.mpr ⟨⟨⟨_, _, _, rfl, by decide, zm_f5.1, zm_f5.2.1, zm_f5.2.2, Or.inl ⟨_, zw_731, Or.inl rfl⟩⟩, zm_okw_n rfl rfl⟩, fun _ h => absurd h List.not_mem_nil⟩⟩⟩⟩⟩⟩
set_option maxRecDepth 100000 in
theorem zq_80_4 : ∀ e ∈ zm_c80_4, zm_okq 80 e.2 := List.forall_mem_cons.mpr ⟨trivial, List.forall_mem_cons.mpr ⟨trivial, List.forall_mem_cons.mpr ⟨trivial, List.forall_mem_cons.mpr ⟨trivial, fun _ h => absurd h List.not_mem_nil⟩⟩⟩⟩
set_option maxRecDepth 100000 in
theorem zq_81_0 : ∀ e ∈ zm_c81_0, zm_okq 81 e.2 := List.forall_mem_cons.mpr ⟨trivial, List.forall_mem_cons.mpr ⟨trivial, List.forall_mem_cons.mpr ⟨⟨⟨_, _, _, rfl, by decide, zm_f5.1, zm_f5.2.1, zm_f5.2.2, Or.inl ⟨_, zw_730, Or.inl rfl⟩⟩, zm_okw_n rfl rfl⟩, List.forall_mem_cons.mpr ⟨trivial, List.forall_mem_cons.mpr ⟨trivial, List.forall_mem_cons.mpr ⟨trivial, fun _ h => absurd h List.not_mem_nil⟩⟩⟩⟩⟩⟩
set_option maxRecDepth 100000 in
theorem zq_81_1 : ∀ e ∈ zm_c81_1, zm_okq 81 e.2 := List.forall_mem_cons.mpr ⟨trivial, List.forall_mem_cons.mpr ⟨trivial, List.forall_mem_cons.mpr ⟨trivial, List.forall_mem_cons.mpr ⟨trivial, List.forall_mem_cons.mpr ⟨trivial, List.forall_mem_cons.mpr ⟨⟨_, _, _, rfl, by decide, zm_f5.1, zm_f5.2.1, zm_f5.2.2, Or.inl ⟨_, zw_730, Or.inl rfl⟩⟩, fun _ h => absurd h List.not_mem_nil⟩⟩⟩⟩⟩⟩
set_option maxRecDepth 100000 in
theorem zq_81_2 : ∀ e ∈ zm_c81_2, zm_okq 81 e.2 := List.forall_mem_cons.mpr ⟨⟨⟨_, _, _, rfl, by decide, zm_f5.1, zm_f5.2.1, zm_f5.2.2, Or.inl ⟨_, zw_729, Or.inl rfl⟩⟩, zm_okw_n rfl rfl⟩, List.forall_mem_cons.mpr ⟨trivial, List.forall_mem_cons.mpr ⟨trivial, List.forall_mem_cons.mpr ⟨trivial, List.forall_mem_cons.mpr ⟨trivial, List.forall_mem_cons.mpr ⟨trivial, fun _ h => absurd h List.not_mem_nil⟩⟩⟩⟩⟩⟩
set_option maxRecDepth 100000 in
theorem zq_81_3 : ∀ e ∈ zm_c81_3, zm_okq 81 e.2 := List.forall_mem_cons.mpr ⟨trivial, List.forall_mem_cons.mpr ⟨⟨⟨_, _, _, rfl, by decide, zm_f5.1, zm_f5.2.1, zm_f5.2.2, Or.inl ⟨_, zw_728, Or.inl rfl⟩⟩, zm_okw_n rfl rfl⟩, List.forall_mem_cons.mpr ⟨trivial, List.forall_mem_cons.mpr ⟨trivial, List.forall_mem_cons.mpr ⟨trivial, List.forall_mem_cons.mpr ⟨trivial, fun _ h => absurd h List.not_mem_nil⟩⟩⟩⟩⟩⟩
set_option maxRecDepth 100000 in
theorem zq_81_4 : ∀ e ∈ zm_c81_4, zm_okq 81 e.2 := List.forall_mem_cons.mpr ⟨trivial, List.forall_mem_cons.mpr ⟨trivial, List.forall_mem_cons.mpr ⟨trivial, List.forall_mem_cons.mpr ⟨trivial, List.forall_mem_cons.mpr ⟨trivial, List.forall_mem_cons.mpr ⟨trivial, fun _ h => absurd h List.not_mem_nil⟩⟩⟩⟩⟩⟩
set_option maxRecDepth 100000 in
theorem zq_81_5 : ∀ e ∈ zm_c81_5, zm_okq 81 e.2 := List.forall_mem_cons.mpr ⟨⟨⟨_, _, _, rfl, by decide, zm_f5.1, zm_f5.2.1, zm_f5.2.2, Or.inl ⟨_, zw_728, Or.inl rfl⟩⟩, zm_okw_n rfl rfl⟩, List.forall_mem_cons.mpr ⟨trivial, List.forall_mem_cons.mpr ⟨trivial, List.forall_mem_cons.mpr ⟨⟨⟨_, _, _, rfl, by decide, zm_f5.1, zm_f5.2.1, zm_f5.2.2, Or.inl ⟨_, zw_753, Or.inl rfl⟩⟩, zm_okw_n rfl rfl⟩, List.forall_mem_cons.mpr ⟨trivial, List.forall_mem_cons.mpr ⟨trivial, fun _ h => absurd h List.not_mem_nil⟩⟩⟩⟩⟩⟩
set_option maxRecDepth 100000 in
theorem zq_81_6 : ∀ e ∈ zm_c81_6, zm_okq 81 e.2 := List.forall_mem_cons.mpr ⟨⟨⟨_, _, _, rfl, by decide, zm_f5.1, zm_f5.2.1, zm_f5.2.2, Or.inl ⟨_, zw_752, Or.inl rfl⟩⟩, zm_okw_n rfl rfl⟩, List.forall_mem_cons.mpr ⟨trivial, List.forall_mem_cons.mpr ⟨trivial, List.forall_mem_cons.mpr ⟨trivial, List.forall_mem_cons.mpr ⟨trivial, List.forall_mem_cons.mpr ⟨trivial, fun _ h => absurd h List.not_mem_nil⟩⟩⟩⟩⟩⟩
set_option maxRecDepth 100000 in
theorem zq_81_7 : ∀ e ∈ zm_c81_7, zm_okq 81 e.2 := List.forall_mem_cons.mpr ⟨trivial, List.forall_mem_cons.mpr ⟨trivial, fun _ h => absurd h List.not_mem_nil⟩⟩
set_option maxRecDepth 100000 in
theorem zq_82_0 : ∀ e ∈ zm_c82_0, zm_okq 82 e.2 := List.forall_mem_cons.mpr ⟨trivial, List.forall_mem_cons.mpr ⟨trivial, List.forall_mem_cons.mpr ⟨trivial, List.forall_mem_cons.mpr ⟨trivial, List.forall_mem_cons.mpr ⟨trivial, List.forall_mem_cons.mpr ⟨trivial, fun _ h => absurd h List.not_mem_nil⟩⟩⟩⟩⟩⟩
set_option maxRecDepth 100000 in
theorem zq_82_1 : ∀ e ∈ zm_c82_1, zm_okq 82 e.2 := List.forall_mem_cons.mpr ⟨trivial, List.forall_mem_cons.mpr ⟨trivial, List.forall_mem_cons.mpr ⟨⟨_, _, _, rfl, by decide, zm_f5.1, zm_f5.2.1, zm_f5.2.2, Or.inl ⟨_, zw_727, Or.inl rfl⟩⟩, List.forall_mem_cons.mpr ⟨trivial, List.forall_mem_cons.mpr ⟨trivial, List.forall_mem_cons.mpr ⟨trivial, fun _ h => absurd h List.not_mem_nil⟩⟩⟩⟩⟩⟩
set_option maxRecDepth 100000 in
theorem zq_82_2 : ∀ e ∈ zm_c82_2, zm_okq 82 e.2 := List.forall_mem_cons.mpr ⟨trivial, List.forall_mem_cons.mpr ⟨trivial, List.forall_mem_cons.mpr ⟨trivial, List.forall_mem_cons.mpr ⟨⟨_, _, _, rfl, by decide, zm_f5.1, zm_f5.2.1, zm_f5.2.2, Or.inl ⟨_, zw_723, Or.inl rfl⟩⟩, List.forall_mem_cons.mpr ⟨trivial, List.forall_mem_cons.mpr ⟨trivial, fun _ h => absurd h List.not_mem_nil⟩⟩⟩⟩⟩⟩
set_option maxRecDepth 100000 in
theorem zq_82_3 : ∀ e ∈ zm_c82_3, zm_okq 82 e.2 := List.forall_mem_cons.mpr ⟨trivial, List.forall_mem_cons.mpr ⟨trivial, List.forall_mem_cons.mpr ⟨trivial, List.forall_mem_cons.mpr ⟨trivial, List.forall_mem_cons.mpr ⟨trivial, List.forall_mem_cons.mpr ⟨⟨_, _, _, rfl, by decide, zm_f5.1, zm_f5.2.1, zm_f5.2.2, Or.inl ⟨_, zw_723, Or.inl rfl⟩⟩, fun _ h => absurd h List.not_mem_nil⟩⟩⟩⟩⟩⟩
set_option maxRecDepth 100000 in
theorem zq_82_4 : ∀ e ∈ zm_c82_4, zm_okq 82 e.2 := List.forall_mem_cons.mpr ⟨trivial, List.forall_mem_cons.mpr ⟨trivial, List.forall_mem_cons.mpr ⟨trivial, List.forall_mem_cons.mpr ⟨trivial, List.forall_mem_cons.mpr ⟨trivial, List.forall_mem_cons.mpr ⟨trivial, fun _ h => absurd h List.not_mem_nil⟩⟩⟩⟩⟩⟩
set_option maxRecDepth 100000 in
theorem zq_82_5 : ∀ e ∈ zm_c82_5, zm_okq 82 e.2 := List.forall_mem_cons.mpr ⟨trivial, List.forall_mem_cons.mpr ⟨⟨_, _, _, rfl, by decide, zm_f5.1, zm_f5.2.1, zm_f5.2.2, Or.inl ⟨_, zw_722, Or.inl rfl⟩⟩, List.forall_mem_cons.mpr ⟨trivial, List.forall_mem_cons.mpr ⟨trivial, List.forall_mem_cons.mpr ⟨⟨_, _, _, rfl, by decide, zm_f5.1, zm_f5.2.1, zm_f5.2.2, Or.inl ⟨_, zw_721, Or.inl rfl⟩⟩, List.forall_mem_cons.mpr ⟨trivial, fun _ h => absurd h List.not_mem_nil⟩⟩⟩⟩⟩⟩
set_option maxRecDepth 100000 in
theorem zq_82_6 : ∀ e ∈ zm_c82_6, zm_okq 82 e.2 := List.forall_mem_cons.mpr ⟨trivial, List.forall_mem_cons.mpr ⟨trivial, List.forall_mem_cons.mpr ⟨trivial, List.forall_mem_cons.mpr ⟨trivial, List.forall_mem_cons.mpr ⟨trivial, List.forall_mem_cons.mpr ⟨trivial, fun _ h => absurd h List.not_mem_nil⟩⟩⟩⟩⟩⟩
set_option maxRecDepth 100000 in
theorem zq_82_7 : ∀ e ∈ zm_c82_7, zm_okq 82 e.2 := List.forall_mem_cons.mpr ⟨⟨_, _, _, rfl, by decide, zm_f5.1, zm_f5.2.1, zm_f5.2.2, Or.inl ⟨_, zw_723, Or.inl rfl⟩⟩, List.forall_mem_cons.mpr ⟨trivial, List.forall_mem_cons.mpr ⟨trivial, List.forall_mem_cons.mpr ⟨trivial, List.forall_mem_cons.mpr ⟨trivial, List.forall_mem_cons.mpr ⟨trivial, fun _ h => absurd h List.not_mem_nil⟩⟩⟩⟩⟩⟩
set_option maxRecDepth 100000 in
theorem zq_82_8 : ∀ e ∈ zm_c82_8, zm_okq 82 e.2 := List.forall_mem_cons.mpr ⟨trivial, List.forall_mem_cons.mpr ⟨trivial, List.forall_mem_cons.mpr ⟨trivial, List.forall_mem_cons.mpr ⟨trivial, List.forall_mem_cons.mpr ⟨trivial, List.forall_mem_cons.mpr ⟨trivial, fun _ h => absurd h List.not_mem_nil⟩⟩⟩⟩⟩⟩
set_option maxRecDepth 100000 in
theorem zq_82_9 : ∀ e ∈ zm_c82_9, zm_okq 82 e.2 := List.forall_mem_cons.mpr ⟨⟨_, _, _, rfl, by decide, zm_f5.1, zm_f5.2.1, zm_f5.2.2, Or.inl ⟨_, zw_721, Or.inl rfl⟩⟩, List.forall_mem_cons.mpr ⟨trivial, List.forall_mem_cons.mpr ⟨trivial, List.forall_mem_cons.mpr ⟨⟨_, _, _, rfl, by decide, zm_f5.1, zm_f5.2.1, zm_f5.2.2, Or.inl ⟨_, zw_722, Or.inl rfl⟩⟩, List.forall_mem_cons.mpr ⟨trivial, List.forall_mem_cons.mpr ⟨trivial, fun _ h => absurd h List.not_mem_nil⟩⟩⟩⟩⟩⟩
set_option maxRecDepth 100000 in
theorem zq_82_10 : ∀ e ∈ zm_c82_10, zm_okq 82 e.2 := List.forall_mem_cons.mpr ⟨trivial, List.forall_mem_cons.mpr ⟨trivial, List.forall_mem_cons.mpr ⟨trivial, List.forall_mem_cons.mpr ⟨trivial, List.forall_mem_cons.mpr ⟨trivial, List.forall_mem_cons.mpr ⟨⟨⟨_, _, _, rfl, by decide, zm_f5.1, zm_f5.2.1, zm_f5.2.2, Or.inl ⟨_, zw_731, Or.inl rfl⟩⟩, zm_okw_n rfl rfl⟩, fun _ h => absurd h List.not_mem_nil⟩⟩⟩⟩⟩⟩
set_option maxRecDepth 100000 in
theorem zq_82_11 : ∀ e ∈ zm_c82_11, zm_okq 82 e.2 := List.forall_mem_cons.mpr ⟨trivial, List.forall_mem_cons.mpr ⟨trivial, List.forall_mem_cons.mpr ⟨trivial, List.forall_mem_cons.mpr ⟨trivial, List.forall_mem_cons.mpr ⟨trivial, List.forall_mem_cons.mpr ⟨⟨⟨_, _, _, rfl, by decide, zm_f5.1, zm_f5.2.1, zm_f5.2.2, Or.inl ⟨_, zw_745, Or.inl rfl⟩⟩, zm_okw_n rfl rfl⟩, fun _ h => absurd h List.not_mem_nil⟩⟩⟩⟩⟩⟩
set_option maxRecDepth 100000 in
theorem zq_82_12 : ∀ e ∈ zm_c82_12, zm_okq 82 e.2 := List.forall_mem_cons.mpr ⟨trivial, List.forall_mem_cons.mpr ⟨⟨⟨_, _, _, rfl, by decide, zm_f5.1, zm_f5.2.1, zm_f5.2.2, Or.inl ⟨_, zw_744, Or.inl rfl⟩⟩, zm_okw_n rfl rfl⟩, List.forall_mem_cons.mpr ⟨⟨⟨_, _, _, rfl, by decide, zm_f5.1, zm_f5.2.1, zm_f5.2.2, Or.inl ⟨_, zw_743, Or.inl rfl⟩⟩, zm_okw_n rfl rfl⟩, List.forall_mem_cons.mpr ⟨trivial, fun _ h => absurd h List.not_mem_nil⟩⟩⟩⟩
set_option maxRecDepth 100000 in
theorem zq_83_0 : ∀ e ∈ zm_c83_0, zm_okq 83 e.2 := List.forall_mem_cons.mpr ⟨trivial, List.forall_mem_cons.mpr ⟨trivial, List.forall_mem_cons.mpr ⟨trivial, List.forall_mem_cons.mpr ⟨trivial, List.forall_mem_cons.mpr ⟨trivial, List.forall_mem_cons.mpr ⟨trivial, fun _ h => absurd h List.not_mem_nil⟩⟩⟩⟩⟩⟩
set_option maxRecDepth 100000 in
theorem zq_83_1 : ∀ e ∈ zm_c83_1, zm_okq 83 e.2 := List.forall_mem_cons.mpr ⟨trivial, List.forall_mem_cons.mpr ⟨trivial, List.forall_mem_cons.mpr ⟨⟨_, _, _, rfl, by decide, zm_f5.1, zm_f5.2.1, zm_f5.2.2, Or.inl ⟨_, zw_721, Or.inl rfl⟩⟩, List.forall_mem_cons.mpr ⟨trivial, List.forall_mem_cons.mpr ⟨trivial, List.forall_mem_cons.mpr ⟨trivial, fun _ h => absurd h List.not_mem_nil⟩⟩⟩⟩⟩⟩
set_option maxRecDepth 100000 in
theorem zq_83_2 : ∀ e ∈ zm_c83_2, zm_okq 83 e.2 := List.forall_mem_cons.mpr ⟨trivial, List.forall_mem_cons.mpr ⟨trivial, List.forall_mem_cons.mpr ⟨trivial, List.forall_mem_cons.mpr ⟨trivial, List.forall_mem_cons.mpr ⟨trivial, List.forall_mem_cons.mpr ⟨trivial, fun _ h => absurd h List.not_mem_nil⟩⟩⟩⟩⟩⟩
set_option maxRecDepth 100000 in
theorem zq_83_3 : ∀ e ∈ zm_c83_3, zm_okq 83 e.2 := List.forall_mem_cons.mpr ⟨trivial, List.forall_mem_cons.mpr ⟨trivial, fun _ h => absurd h List.not_mem_nil⟩⟩
set_option maxRecDepth 100000 in
theorem zq_84_0 : ∀ e ∈ zm_c84_0, zm_okq 84 e.2 := List.forall_mem_cons.mpr ⟨trivial, List.forall_mem_cons.mpr ⟨trivial, List.forall_mem_cons.mpr ⟨⟨⟨_, _, _, rfl, by decide, zm_f5.1, zm_f5.2.1, zm_f5.2.2, Or.inl ⟨_, zw_751, Or.inl rfl⟩⟩, zm_okw_n rfl rfl⟩, List.forall_mem_cons.mpr ⟨trivial, List.forall_mem_cons.mpr ⟨trivial, List.forall_mem_cons.mpr ⟨trivial, fun _ h => absurd h List.not_mem_nil⟩⟩⟩⟩⟩⟩
set_option maxRecDepth 100000 in
theorem zq_84_1 : ∀ e ∈ zm_c84_1, zm_okq 84 e.2 := List.forall_mem_cons.mpr ⟨trivial, List.forall_mem_cons.mpr ⟨trivial, List.forall_mem_cons.mpr ⟨⟨_, _, _, rfl, by decide, zm_f5.1, zm_f5.2.1, zm_f5.2.2, Or.inl ⟨_, zw_751, Or.inl rfl⟩⟩, List.forall_mem_cons.mpr ⟨trivial, List.forall_mem_cons.mpr ⟨trivial, List.forall_mem_cons.mpr ⟨⟨_, _, _, rfl, by decide, zm_f5.1, zm_f5.2.1, zm_f5.2.2, Or.inl ⟨_, zw_732, Or.inl rfl⟩⟩, fun _ h => absurd h List.not_mem_nil⟩⟩⟩⟩⟩⟩
set_option maxRecDepth 100000 in
theorem zq_84_2 : ∀ e ∈ zm_c84_2, zm_okq 84 e.2 := List.forall_mem_cons.mpr ⟨trivial, List.forall_mem_cons.mpr ⟨trivial, List.forall_mem_cons.mpr ⟨trivial, List.forall_mem_cons.mpr ⟨trivial, List.forall_mem_cons.mpr ⟨trivial, fun _ h => absurd h List.not_mem_nil⟩⟩⟩⟩⟩
set_option maxRecDepth 100000 in
theorem zq_85_0 : ∀ e ∈ zm_c85_0, zm_okq 85 e.2 := List.forall_mem_cons.mpr ⟨trivial, List.forall_mem_cons.mpr ⟨⟨_, _, _, rfl, by decide, zm_f5.1, zm_f5.2.1, zm_f5.2.2, Or.inl ⟨_, zw_751, Or.inl rfl⟩⟩, List.forall_mem_cons.mpr ⟨trivial, List.forall_mem_cons.mpr ⟨trivial, List.forall_mem_cons.mpr ⟨trivial, List.forall_mem_cons.mpr ⟨trivial, fun _ h => absurd h List.not_mem_nil⟩⟩⟩⟩⟩⟩
set_option maxRecDepth 100000 in
theorem zq_85_1 : ∀ e ∈ zm_c85_1, zm_okq 85 e.2 := List.forall_mem_cons.mpr ⟨⟨⟨_, _, _, rfl, by decide, zm_f5.1, zm_f5.2.1, zm_f5.2.2, Or.inl ⟨_, zw_732, Or.inl rfl⟩⟩, zm_okw_n rfl rfl⟩, List.forall_mem_cons.mpr ⟨trivial, List.forall_mem_cons.mpr ⟨trivial, List.forall_mem_cons.mpr ⟨trivial, List.forall_mem_cons.mpr ⟨⟨_, _, _, rfl, by decide, zm_f5.1, zm_f5.2.1, zm_f5.2.2, Or.inl ⟨_, zw_751, Or.inl rfl⟩⟩, List.forall_mem_cons.mpr ⟨trivial, fun _ h => absurd h List.not_mem_nil⟩⟩⟩⟩⟩⟩
set_option maxRecDepth 100000 in
theorem zq_85_2 : ∀ e ∈ zm_c85_2, zm_okq 85 e.2 := List.forall_mem_cons.mpr ⟨trivial, List.forall_mem_cons.mpr ⟨⟨⟨_, _, _, rfl, by decide, zm_f5.1, zm_f5.2.1, zm_f5.2.2, Or.inl ⟨_, zw_751, Or.inl rfl⟩⟩, zm_okw_n rfl rfl⟩, List.forall_mem_cons.mpr ⟨trivial, List.forall_mem_cons.mpr ⟨⟨_, _, _, rfl, by decide, zm_f5.1, zm_f5.2.1, zm_f5.2.2, Or.inl ⟨_, zw_751, Or.inl rfl⟩⟩, List.forall_mem_cons.mpr ⟨trivial, List.forall_mem_cons.mpr ⟨⟨_, _, _, rfl, by decide, zm_f5.1, zm_f5.2.1, zm_f5.2.2, Or.inl ⟨_, zw_752, Or.inl rfl⟩⟩, fun _ h => absurd h List.not_mem_nil⟩⟩⟩⟩⟩⟩
set_option maxRecDepth 100000 in
theorem zq_85_3 : ∀ e ∈ zm_c85_3, zm_okq 85 e.2 := List.forall_mem_cons.mpr ⟨trivial, List.forall_mem_cons.mpr ⟨trivial, List.forall_mem_cons.mpr ⟨trivial, List.forall_mem_cons.mpr ⟨⟨_, _, _, rfl, by decide, zm_f5.1, zm_f5.2.1, zm_f5.2.2, Or.inl ⟨_, zw_751, Or.inl rfl⟩⟩, List.forall_mem_cons.mpr ⟨⟨⟨_, _, _, rfl, by decide, zm_f5.1, zm_f5.2.1, zm_f5.2.2, Or.inl ⟨_, zw_752, Or.inl rfl⟩⟩, zm_okw_n rfl rfl⟩, List.forall_mem_cons.mpr ⟨trivial, fun _ h => absurd h List.not_mem_nil⟩⟩⟩⟩⟩⟩
set_option maxRecDepth 100000 in
theorem zq_85_4 : ∀ e ∈ zm_c85_4, zm_okq 85 e.2 := List.forall_mem_cons.mpr ⟨⟨_, _, _, rfl, by decide, zm_f5.1, zm_f5.2.1, zm_f5.2.2, Or.inl ⟨_, zw_746, Or.inl rfl⟩⟩, List.forall_mem_cons.mpr ⟨trivial, List.forall_mem_cons.mpr ⟨⟨_, _, _, rfl, by decide, zm_f5.1, zm_f5.2.1, zm_f5.2.2, Or.inl ⟨_, zw_751, Or.inl rfl⟩⟩, List.forall_mem_cons.mpr ⟨trivial, List.forall_mem_cons.mpr ⟨trivial, List.forall_mem_cons.mpr ⟨trivial, fun _ h => absurd h List.not_mem_nil⟩⟩⟩⟩⟩⟩
set_option maxRecDepth 100000 in
theorem zq_85_5 : ∀ e ∈ zm_c85_5, zm_okq 85 e.2 := List.forall_mem_cons.mpr ⟨⟨_, _, _, rfl, by decide, zm_f5.1, zm_f5.2.1, zm_f5.2.2, Or.inl ⟨_, zw_747, Or.inl rfl⟩⟩, List.forall_mem_cons.mpr ⟨trivial, List.forall_mem_cons.mpr ⟨⟨_, _, _, rfl, by decide, zm_f5.1, zm_f5.2.1, zm_f5.2.2, Or.inl ⟨_, zw_751, Or.inl rfl⟩⟩, List.forall_mem_cons.mpr ⟨trivial, List.forall_mem_cons.mpr ⟨trivial, List.forall_mem_cons.mpr ⟨trivial, fun _ h => absurd h List.not_mem_nil⟩⟩⟩⟩⟩⟩
set_option maxRecDepth 100000 in
theorem zq_85_6 : ∀ e ∈ zm_c85_6, zm_okq 85 e.2 := List.forall_mem_cons.mpr ⟨⟨_, _, _, rfl, by decide, zm_f5.1, zm_f5.2.1, zm_f5.2.2, Or.inl ⟨_, zw_748, Or.inl rfl⟩⟩, List.forall_mem_cons.mpr ⟨trivial, List.forall_mem_cons.mpr ⟨⟨_, _, _, rfl, by decide, zm_f5.1, zm_f5.2.1, zm_f5.2.2, Or.inl ⟨_, zw_751, Or.inl rfl⟩⟩, List.forall_mem_cons.mpr ⟨trivial, List.forall_mem_cons.mpr ⟨trivial, List.forall_mem_cons.mpr ⟨trivial, fun _ h => absurd h List.not_mem_nil⟩⟩⟩⟩⟩⟩
set_option maxRecDepth 100000 in
theorem zq_85_7 : ∀ e ∈ zm_c85_7, zm_okq 85 e.2 := List.forall_mem_cons.mpr ⟨⟨_, _, _, rfl, by decide, zm_f5.1, zm_f5.2.1, zm_f5.2.2, Or.inl ⟨_, zw_750, Or.inl rfl⟩⟩, List.forall_mem_cons.mpr ⟨trivial, List.forall_mem_cons.mpr ⟨⟨_, _, _, rfl, by decide, zm_f5.1, zm_f5.2.1, zm_f5.2.2, Or.inl ⟨_, zw_751, Or.inl rfl⟩⟩, List.forall_mem_cons.mpr ⟨trivial, List.forall_mem_cons.mpr ⟨trivial, List.forall_mem_cons.mpr ⟨trivial, fun _ h => absurd h List.not_mem_nil⟩⟩⟩⟩⟩⟩
set_option maxRecDepth 100000 in
theorem zq_86_0 : ∀ e ∈ zm_c86_0, zm_okq 86 e.2 := List.forall_mem_cons.mpr ⟨trivial, List.forall_mem_cons.mpr ⟨⟨_, _, _, rfl, by decide, zm_f5.1, zm_f5.2.1, zm_f5.2.2, Or.inl ⟨_, zw_751, Or.inl rfl⟩⟩, List.forall_mem_cons.mpr ⟨trivial, List.forall_mem_cons.mpr ⟨trivial, List.forall_mem_cons.mpr ⟨⟨_, _, _, rfl, by decide, zm_f5.1, zm_f5.2.1, zm_f5.2.2, Or.inl ⟨_, zw_746, Or.inl rfl⟩⟩, List.forall_mem_cons.mpr ⟨trivial, fun _ h => absurd h List.not_mem_nil⟩⟩⟩⟩⟩⟩
set_option maxRecDepth 100000 in
theorem zq_86_1 : ∀ e ∈ zm_c86_1, zm_okq 86 e.2 := List.forall_mem_cons.mpr ⟨trivial, List.forall_mem_cons.mpr ⟨trivial, List.forall_mem_cons.mpr ⟨trivial, List.forall_mem_cons.mpr ⟨⟨_, _, _, rfl, by decide, zm_f5.1, zm_f5.2.1, zm_f5.2.2, Or.inl ⟨_, zw_721, Or.inl rfl⟩⟩, List.forall_mem_cons.mpr ⟨trivial, List.forall_mem_cons.mpr ⟨trivial, fun _ h => absurd h List.not_mem_nil⟩⟩⟩⟩⟩⟩
set_option maxRecDepth 100000 in
theorem zq_86_2 : ∀ e ∈ zm_c86_2, zm_okq 86 e.2 := List.forall_mem_cons.mpr ⟨trivial, List.forall_mem_cons.mpr ⟨trivial, List.forall_mem_cons.mpr ⟨⟨_, _, _, rfl, by decide, zm_f5.1, zm_f5.2.1, zm_f5.2.2, Or.inl ⟨_, zw_748, Or.inl rfl⟩⟩, List.forall_mem_cons.mpr ⟨trivial, List.forall_mem_cons.mpr ⟨trivial, List.forall_mem_cons.mpr ⟨trivial, fun _ h => absurd h List.not_mem_nil⟩⟩⟩⟩⟩⟩
set_option maxRecDepth 100000 in
theorem zq_86_3 : ∀ e ∈ zm_c86_3, zm_okq 86 e.2 := List.forall_mem_cons.mpr ⟨trivial, List.forall_mem_cons.mpr ⟨trivial, List.forall_mem_cons.mpr ⟨trivial, List.forall_mem_cons.mpr ⟨trivial, List.forall_mem_cons.mpr ⟨trivial, List.forall_mem_cons.mpr ⟨⟨_, _, _, rfl, by decide, zm_f5.1, zm_f5.2.1, zm_f5.2.2, Or.inl ⟨_, zw_748, Or.inl rfl⟩⟩, fun _ h => absurd h List.not_mem_nil⟩⟩⟩⟩⟩⟩
set_option maxRecDepth 100000 in
theorem zq_86_4 : ∀ e ∈ zm_c86_4, zm_okq 86 e.2 := List.forall_mem_cons.mpr ⟨trivial, List.forall_mem_cons.mpr ⟨trivial, List.forall_mem_cons.mpr ⟨trivial, List.forall_mem_cons.mpr ⟨trivial, List.forall_mem_cons.mpr ⟨trivial, List.forall_mem_cons.mpr ⟨trivial, fun _ h => absurd h List.not_mem_nil⟩⟩⟩⟩⟩⟩
set_option maxRecDepth 100000 in
theorem zq_86_5 : ∀ e ∈ zm_c86_5, zm_okq 86 e.2 := List.forall_mem_cons.mpr ⟨⟨_, _, _, rfl, by decide, zm_f5.1, zm_f5.2.1, zm_f5.2.2, Or.inl ⟨_, zw_751, Or.inl rfl⟩⟩, List.forall_mem_cons.mpr ⟨trivial, List.forall_mem_cons.mpr ⟨trivial, List.forall_mem_cons.mpr ⟨⟨⟨_, _, _, rfl, by decide, zm_f5.1, zm_f5.2.1, zm_f5.2.2, Or.inl ⟨_, zw_751, Or.inl rfl⟩⟩, zm_okw_n rfl rfl⟩, List.forall_mem_cons.mpr ⟨trivial, List.forall_mem_cons.mpr ⟨trivial, fun _ h => absurd h List.not_mem_nil⟩⟩⟩⟩⟩⟩
set_option maxRecDepth 100000 in
theorem zq_86_6 : ∀ e ∈ zm_c86_6, zm_okq 86 e.2 := List.forall_mem_cons.mpr ⟨⟨_, _, _, rfl, by decide, zm_f5.1, zm_f5.2.1, zm_f5.2.2, Or.inl ⟨_, zw_748, Or.inl rfl⟩⟩, List.forall_mem_cons.mpr ⟨trivial, List.forall_mem_cons.mpr ⟨trivial, List.forall_mem_cons.mpr ⟨trivial, List.forall_mem_cons.mpr ⟨trivial, List.forall_mem_cons.mpr ⟨trivial, fun _ h => absurd h List.not_mem_nil⟩⟩⟩⟩⟩⟩
set_option maxRecDepth 100000 in
theorem zq_86_7 : ∀ e ∈ zm_c86_7, zm_okq 86 e.2 := List.forall_mem_cons.mpr ⟨trivial, List.forall_mem_cons.mpr ⟨trivial, List.forall_mem_cons.mpr ⟨trivial, List.forall_mem_cons.mpr ⟨trivial, List.forall_mem_cons.mpr ⟨trivial, List.forall_mem_cons.mpr ⟨trivial, fun _ h => absurd h List.not_mem_nil⟩⟩⟩⟩⟩⟩
set_option maxRecDepth 100000 in
theorem zq_86_8 : ∀ e ∈ zm_c86_8, zm_okq 86 e.2 := List.forall_mem_cons.mpr ⟨trivial, List.forall_mem_cons.mpr ⟨trivial, List.forall_mem_cons.mpr ⟨trivial, List.forall_mem_cons.mpr ⟨trivial, List.forall_mem_cons.mpr ⟨trivial, List.forall_mem_cons.mpr ⟨trivial, fun _ h => absurd h List.not_mem_nil⟩⟩⟩⟩⟩⟩
set_option maxRecDepth 100000 in
theorem zq_86_9 : ∀ e ∈ zm_c86_9, zm_okq 86 e.2 := List.forall_mem_cons.mpr ⟨trivial, List.forall_mem_cons.mpr ⟨trivial, List.forall_mem_cons.mpr ⟨trivial, List.forall_mem_cons.mpr ⟨trivial, List.forall_mem_cons.mpr ⟨trivial, List.forall_mem_cons.mpr ⟨trivial, fun _ h => absurd h List.not_mem_nil⟩⟩⟩⟩⟩⟩
set_option maxRecDepth 100000 in
theorem zq_86_10 : ∀ e ∈ zm_c86_10, zm_okq 86 e.2 := List.forall_mem_cons.mpr ⟨trivial, List.forall_mem_cons.mpr ⟨trivial, List.forall_mem_cons.mpr ⟨trivial, List.forall_mem_cons.mpr ⟨trivial, List.forall_mem_cons.mpr ⟨trivial, List.forall_mem_cons.mpr ⟨trivial, fun _ h => absurd h List.not_mem_nil⟩⟩⟩⟩⟩⟩
set_option maxRecDepth 100000 in
theorem zq_86_11 : ∀ e ∈ zm_c86_11, zm_okq 86 e.2 := List.forall_mem_cons.mpr ⟨trivial, List.forall_mem_cons.mpr ⟨trivial, List.forall_mem_cons.mpr ⟨trivial, List.forall_mem_cons.mpr ⟨trivial, List.forall_mem_cons.mpr ⟨trivial, List.forall_mem_cons.mpr ⟨trivial, fun _ h => absurd h List.not_mem_nil⟩⟩⟩⟩⟩⟩
set_option maxRecDepth 100000 in
theorem zq_86_12 : ∀ e ∈ zm_c86_12, zm_okq 86 e.2 := List.forall_mem_cons.mpr ⟨trivial, List.forall_mem_cons.mpr ⟨trivial, List.forall_mem_cons.mpr ⟨trivial, List.forall_mem_cons.mpr ⟨trivial, List.forall_mem_cons.mpr ⟨⟨_, _, _, rfl, by decide, zm_f5.1, zm_f5.2.1, zm_f5.2.2, Or.inl ⟨_, zw_747, Or.inl rfl⟩⟩, List.forall_mem_cons.mpr ⟨trivial, fun _ h => absurd h List.not_mem_nil⟩⟩⟩⟩⟩⟩
set_option maxRecDepth 100000 in
theorem zq_86_13 : ∀ e ∈ zm_c86_13, zm_okq 86 e.2 := List.forall_mem_cons.mpr ⟨trivial, List.forall_mem_cons.mpr ⟨trivial, List.forall_mem_cons.mpr ⟨trivial, List.forall_mem_cons.mpr ⟨trivial, List.forall_mem_cons.mpr ⟨trivial, List.forall_mem_cons.mpr ⟨trivial, fun _ h => absurd h List.not_mem_nil⟩⟩⟩⟩⟩⟩
set_option maxRecDepth 100000 in
theorem zq_86_14 : ∀ e ∈ zm_c86_14, zm_okq 86 e.2 := List.forall_mem_cons.mpr ⟨trivial, List.forall_mem_cons.mpr ⟨trivial, List.forall_mem_cons.mpr ⟨trivial, List.forall_mem_cons.mpr ⟨trivial, List.forall_mem_cons.mpr ⟨trivial, List.forall_mem_cons.mpr ⟨trivial, fun _ h => absurd h List.not_mem_nil⟩⟩⟩⟩⟩⟩
set_option maxRecDepth 100000 in
theorem zq_86_15 : ∀ e ∈ zm_c86_15, zm_okq 86 e.2 := List.forall_mem_cons.mpr ⟨trivial, List.forall_mem_cons.mpr ⟨trivial, List.forall_mem_cons.mpr ⟨trivial, List.forall_mem_cons.mpr ⟨trivial, List.forall_mem_cons.mpr ⟨trivial, List.forall_mem_cons.mpr ⟨trivial, fun _ h => absurd h List.not_mem_nil⟩⟩⟩⟩⟩⟩
set_option maxRecDepth 100000 in
theorem zq_86_16 : ∀ e ∈ zm_c86_16, zm_okq 86 e.2 := List.forall_mem_cons.mpr ⟨trivial, List.forall_mem_cons.mpr ⟨trivial, List.forall_mem_cons.mpr ⟨trivial, List.forall_mem_cons.mpr ⟨trivial, List.forall_mem_cons.mpr ⟨trivial, List.forall_mem_cons.mpr ⟨⟨_, _, _, rfl, by decide, zm_f5.1, zm_f5.2.1, zm_f5.2.2, Or.inl ⟨_, zw_747, Or.inl rfl⟩⟩, fun _ h => absurd h List.not_mem_nil⟩⟩⟩⟩⟩⟩
set_option maxRecDepth 100000 in
theorem zq_86_17 : ∀ e ∈ zm_c86_17, zm_okq 86 e.2 := List.forall_mem_cons.mpr ⟨trivial, List.forall_mem_cons.mpr ⟨trivial, List.forall_mem_cons.mpr ⟨trivial, List.forall_mem_cons.mpr ⟨trivial, List.forall_mem_cons.mpr ⟨trivial, List.forall_mem_cons.mpr ⟨trivial, fun _ h => absurd h List.not_mem_nil⟩⟩⟩⟩⟩⟩
set_option maxRecDepth 100000 in
theorem zq_86_18 : ∀ e ∈ zm_c86_18, zm_okq 86 e.2 := List.forall_mem_cons.mpr ⟨trivial, List.forall_mem_cons.mpr ⟨trivial, List.forall_mem_cons.mpr ⟨trivial, List.forall_mem_cons.mpr ⟨trivial, List.forall_mem_cons.mpr ⟨trivial, List.forall_mem_cons.mpr ⟨trivial, fun _ h => absurd h List.not_mem_nil⟩⟩⟩⟩⟩⟩
set_option maxRecDepth 100000 in
theorem zq_86_19 : ∀ e ∈ zm_c86_19, zm_okq 86 e.2 := List.forall_mem_cons.mpr ⟨trivial, List.forall_mem_cons.mpr ⟨trivial, List.forall_mem_cons.mpr ⟨⟨_, _, _, rfl, by decide, zm_f5.1, zm_f5.2.1, zm_f5.2.2, Or.inl ⟨_, zw_747, Or.inl rfl⟩⟩, List.forall_mem_cons.mpr ⟨trivial, List.forall_mem_cons.mpr ⟨trivial, List.forall_mem_cons.mpr ⟨trivial, fun _ h => absurd h List.not_mem_nil⟩⟩⟩⟩⟩⟩
set_option maxRecDepth 100000 in
theorem zq_86_20 : ∀ e ∈ zm_c86_20, zm_okq 86 e.2 := List.forall_mem_cons.mpr ⟨trivial, List.forall_mem_cons.mpr ⟨trivial, List.forall_mem_cons.mpr ⟨trivial, List.forall_mem_cons.mpr ⟨⟨_, _, _, rfl, by decide, zm_f5.1, zm_f5.2.1, zm_f5.2.2, Or.inl ⟨_, zw_748, Or.inl rfl⟩⟩, List.forall_mem_cons.mpr ⟨trivial, List.forall_mem_cons.mpr ⟨trivial, fun _ h => absurd h List.not_mem_nil⟩⟩⟩⟩⟩⟩
set_option maxRecDepth 100000 in
theorem zq_86_21 : ∀ e ∈ zm_c86_21, zm_okq 86 e.2 := List.forall_mem_cons.mpr ⟨trivial, List.forall_mem_cons.mpr ⟨trivial, List.forall_mem_cons.mpr ⟨trivial, List.forall_mem_cons.mpr ⟨trivial, List.forall_mem_cons.mpr ⟨trivial, List.forall_mem_cons.mpr ⟨trivial, fun _ h => absurd h List.not_mem_nil⟩⟩⟩⟩⟩⟩
set_option maxRecDepth 100000 in
theorem zq_86_22 : ∀ e ∈ zm_c86_22, zm_okq 86 e.2 := List.forall_mem_cons.mpr ⟨⟨_, _, _, rfl, by decide, zm_f5.1, zm_f5.2.1, zm_f5.2.2, Or.inl ⟨_, zw_747, Or.inl rfl⟩⟩, List.forall_mem_cons.mpr ⟨trivial, List.forall_mem_cons.mpr ⟨trivial, List.forall_mem_cons.mpr ⟨trivial, List.forall_mem_cons.mpr ⟨trivial, fun _ h => absurd h List.not_mem_nil⟩⟩⟩⟩⟩
set_option maxRecDepth 100000 in
theorem zq_87_0 : ∀ e ∈ zm_c87_0, zm_okq 87 e.2 := List.forall_mem_cons.mpr ⟨trivial, List.forall_mem_cons.mpr ⟨⟨_, _, _, rfl, by decide, zm_f5.1, zm_f5.2.1, zm_f5.2.2, Or.inl ⟨_, zw_750, Or.inl rfl⟩⟩, List.forall_mem_cons.mpr ⟨trivial, List.forall_mem_cons.mpr ⟨⟨_, _, _, rfl, by decide, zm_f5.1, zm_f5.2.1, zm_f5.2.2, Or.inl ⟨_, zw_751, Or.inl rfl⟩⟩, List.forall_mem_cons.mpr ⟨trivial, List.forall_mem_cons.mpr ⟨trivial, fun _ h => absurd h List.not_mem_nil⟩⟩⟩⟩⟩⟩
set_option maxRecDepth 100000 in
theorem zq_87_1 : ∀ e ∈ zm_c87_1, zm_okq 87 e.2 := List.forall_mem_cons.mpr ⟨trivial, List.forall_mem_cons.mpr ⟨⟨_, _, _, rfl, by decide, zm_f5.1, zm_f5.2.1, zm_f5.2.2, Or.inl ⟨_, zw_735, Or.inl rfl⟩⟩, List.forall_mem_cons.mpr ⟨trivial, List.forall_mem_cons.mpr ⟨trivial, List.forall_mem_cons.mpr ⟨trivial, List.forall_mem_cons.mpr ⟨trivial, fun _ h => absurd h List.not_mem_nil⟩⟩⟩⟩⟩⟩
set_option maxRecDepth 100000 in
theorem zq_87_2 : ∀ e ∈ zm_c87_2, zm_okq 87 e.2 := List.forall_mem_cons.mpr ⟨⟨_, _, _, rfl, by decide, zm_f5.1, zm_f5.2.1, zm_f5.2.2, Or.inl ⟨_, zw_736, Or.inl rfl⟩⟩, List.forall_mem_cons.mpr ⟨trivial, List.forall_mem_cons.mpr ⟨trivial, List.forall_mem_cons.mpr ⟨⟨_, _, _, rfl, by decide, zm_f5.1, zm_f5.2.1, zm_f5.2.2, Or.inl ⟨_, zw_757, Or.inl rfl⟩⟩, List.forall_mem_cons.mpr ⟨trivial, List.forall_mem_cons.mpr ⟨trivial, fun _ h => absurd h List.not_mem_nil⟩⟩⟩⟩⟩⟩
set_option maxRecDepth 100000 in
theorem zq_87_3 : ∀ e ∈ zm_c87_3, zm_okq 87 e.2 := List.forall_mem_cons.mpr ⟨⟨_, _, _, rfl, by decide, zm_f5.1, zm_f5.2.1, zm_f5.2.2, Or.inl ⟨_, zw_737, Or.inl rfl⟩⟩, List.forall_mem_cons.mpr ⟨trivial, List.forall_mem_cons.mpr ⟨trivial, List.forall_mem_cons.mpr ⟨⟨_, _, _, rfl, by decide, zm_f5.1, zm_f5.2.1, zm_f5.2.2, Or.inl ⟨_, zw_758, Or.inl rfl⟩⟩, List.forall_mem_cons.mpr ⟨trivial, List.forall_mem_cons.mpr ⟨trivial, fun _ h => absurd h List.not_mem_nil⟩⟩⟩⟩⟩⟩
set_option maxRecDepth 100000 in
theorem zq_87_4 : ∀ e ∈ zm_c87_4, zm_okq 87 e.2 := List.forall_mem_cons.mpr ⟨⟨_, _, _, rfl, by decide, zm_f5.1, zm_f5.2.1, zm_f5.2.2, Or.inl ⟨_, zw_738, Or.inl rfl⟩⟩, List.forall_mem_cons.mpr ⟨trivial, List.forall_mem_cons.mpr ⟨trivial, List.forall_mem_cons.mpr ⟨⟨_, _, _, rfl, by decide, zm_f5.1, zm_f5.2.1, zm_f5.2.2, Or.inl ⟨_, zw_759, Or.inl rfl⟩⟩, List.forall_mem_cons.mpr ⟨trivial, List.forall_mem_cons.mpr ⟨trivial, fun _ h => absurd h List.not_mem_nil⟩⟩⟩⟩⟩⟩
set_option maxRecDepth 100000 in
theorem zq_87_5 : ∀ e ∈ zm_c87_5, zm_okq 87 e.2 := List.forall_mem_cons.mpr ⟨trivial, List.forall_mem_cons.mpr ⟨trivial, List.forall_mem_cons.mpr ⟨trivial, fun _ h => absurd h List.not_mem_nil⟩⟩⟩
set_option maxRecDepth 100000 in
theorem zq_88_0 : ∀ e ∈ zm_c88_0, zm_okq 88 e.2 := List.forall_mem_cons.mpr ⟨trivial, List.forall_mem_cons.mpr ⟨trivial, List.forall_mem_cons.mpr ⟨⟨_, _, _, rfl, by decide, zm_f5.1, zm_f5.2.1, zm_f5.2.2, Or.inl ⟨_, zw_736, Or.inl rfl⟩⟩, List.forall_mem_cons.mpr ⟨trivial, List.forall_mem_cons.mpr ⟨trivial, List.forall_mem_cons.mpr ⟨trivial, fun _ h => absurd h List.not_mem_nil⟩⟩⟩⟩⟩⟩
set_option maxRecDepth 100000 in
theorem zq_88_1 : ∀ e ∈ zm_c88_1, zm_okq 88 e.2 := List.forall_mem_cons.mpr ⟨⟨_, _, _, rfl, by decide, zm_f5.1, zm_f5.2.1, zm_f5.2.2, Or.inl ⟨_, zw_737, Or.inl rfl⟩⟩, List.forall_mem_cons.mpr ⟨trivial, List.forall_mem_cons.mpr ⟨trivial, List.forall_mem_cons.mpr ⟨trivial, List.forall_mem_cons.mpr ⟨⟨_, _, _, rfl, by decide, zm_f5.1, zm_f5.2.1, zm_f5.2.2, Or.inl ⟨_, zw_738, Or.inl rfl⟩⟩, List.forall_mem_cons.mpr ⟨trivial, fun _ h => absurd h List.not_mem_nil⟩⟩⟩⟩⟩⟩
set_option maxRecDepth 100000 in
theorem zq_88_2 : ∀ e ∈ zm_c88_2, zm_okq 88 e.2 := List.forall_mem_cons.mpr ⟨trivial, List.forall_mem_cons.mpr ⟨trivial, List.forall_mem_cons.mpr ⟨trivial, fun _ h => absurd h List.not_mem_nil⟩⟩⟩
set_option maxRecDepth 100000 in
theorem zq_89_0 : ∀ e ∈ zm_c89_0, zm_okq 89 e.2 := List.forall_mem_cons.mpr ⟨trivial, List.forall_mem_cons.mpr ⟨trivial, List.forall_mem_cons.mpr ⟨⟨⟨_, _, _, rfl, by decide, zm_f5.1, zm_f5.2.1, zm_f5.2.2, Or.inl ⟨_, zw_757, Or.inl rfl⟩⟩, zm_okw_n rfl rfl⟩, List.forall_mem_cons.mpr ⟨trivial, List.forall_mem_cons.mpr ⟨trivial, List.forall_mem_cons.mpr ⟨⟨⟨_, _, _, rfl, by decide, zm_f5.1, zm_f5.2.1, zm_f5.2.2, Or.inl ⟨_, zw_758, Or.inl rfl⟩⟩, zm_okw_n rfl rfl⟩, fun _ h => absurd h List.not_mem_nil⟩⟩⟩⟩⟩⟩
set_option maxRecDepth 100000 in
theorem zq_89_1 : ∀ e ∈ zm_c89_1, zm_okq 89 e.2 := List.forall_mem_cons.mpr ⟨trivial, List.forall_mem_cons.mpr ⟨trivial, List.forall_mem_cons.mpr ⟨⟨⟨_, _, _, rfl, by decide, zm_f5.1, zm_f5.2.1, zm_f5.2.2, Or.inl ⟨_, zw_759, Or.inl rfl⟩⟩, zm_okw_n rfl rfl⟩, List.forall_mem_cons.mpr ⟨trivial, List.forall_mem_cons.mpr ⟨trivial, List.forall_mem_cons.mpr ⟨⟨_, _, _, rfl, by decide, zm_f5.1, zm_f5.2.1, zm_f5.2.2, Or.inl ⟨_, zw_751, Or.inl rfl⟩⟩, fun _ h => absurd h List.not_mem_nil⟩⟩⟩⟩⟩⟩
set_option maxRecDepth 100000 in
theorem zq_89_2 : ∀ e ∈ zm_c89_2, zm_okq 89 e.2 := List.forall_mem_cons.mpr ⟨trivial, List.forall_mem_cons.mpr ⟨trivial, List.forall_mem_cons.mpr ⟨⟨⟨_, _, _, rfl, by decide, zm_f5.1, zm_f5.2.1, zm_f5.2.2, Or.inl ⟨_, zw_751, Or.inl rfl⟩⟩, zm_okw_n rfl rfl⟩, List.forall_mem_cons.mpr ⟨trivial, fun _ h => absurd h List.not_mem_nil⟩⟩⟩⟩
set_option maxRecDepth 100000 in
theorem zq_90_0 : ∀ e ∈ zm_c90_0, zm_okq 90 e.2 := List.forall_mem_cons.mpr ⟨trivial, List.forall_mem_cons.mpr ⟨⟨_, _, _, rfl, by decide, zm_f5.1, zm_f5.2.1, zm_f5.2.2, Or.inl ⟨_, zw_746, Or.inl rfl⟩⟩, List.forall_mem_cons.mpr ⟨trivial, List.forall_mem_cons.mpr ⟨trivial, List.forall_mem_cons.mpr ⟨trivial, List.forall_mem_cons.mpr ⟨trivial, fun _ h => absurd h List.not_mem_nil⟩⟩⟩⟩⟩⟩
set_option maxRecDepth 100000 in
theorem zq_90_1 : ∀ e ∈ zm_c90_1, zm_okq 90 e.2 := List.forall_mem_cons.mpr ⟨trivial, List.forall_mem_cons.mpr ⟨trivial, List.forall_mem_cons.mpr ⟨trivial, List.forall_mem_cons.mpr ⟨trivial, List.forall_mem_cons.mpr ⟨trivial, List.forall_mem_cons.mpr ⟨trivial, fun _ h => absurd h List.not_mem_nil⟩⟩⟩⟩⟩⟩
set_option maxRecDepth 100000 in
theorem zq_90_2 : ∀ e ∈ zm_c90_2, zm_okq 90 e.2 := List.forall_mem_cons.mpr ⟨trivial, List.forall_mem_cons.mpr ⟨trivial, List.forall_mem_cons.mpr ⟨trivial, List.forall_mem_cons.mpr ⟨trivial, List.forall_mem_cons.mpr ⟨⟨_, _, _, rfl, by decide, zm_f5.1, zm_f5.2.1, zm_f5.2.2, Or.inl ⟨_, zw_757, Or.inl rfl⟩⟩, List.forall_mem_cons.mpr ⟨trivial, fun _ h => absurd h List.not_mem_nil⟩⟩⟩⟩⟩⟩
set_option maxRecDepth 100000 in
theorem zq_90_3 : ∀ e ∈ zm_c90_3, zm_okq 90 e.2 := List.forall_mem_cons.mpr ⟨trivial, List.forall_mem_cons.mpr ⟨trivial, List.forall_mem_cons.mpr ⟨⟨_, _, _, rfl, by decide, zm_f5.1, zm_f5.2.1, zm_f5.2.2, Or.inl ⟨_, zw_757, Or.inl rfl⟩⟩, List.forall_mem_cons.mpr ⟨trivial, List.forall_mem_cons.mpr ⟨trivial, List.forall_mem_cons.mpr ⟨trivial, fun _ h => absurd h List.not_mem_nil⟩⟩⟩⟩⟩⟩
set_option maxRecDepth 100000 in
theorem zq_90_4 : ∀ e ∈ zm_c90_4, zm_okq 90 e.2 := List.forall_mem_cons.mpr ⟨trivial, List.forall_mem_cons.mpr ⟨⟨⟨_, _, _, rfl, by decide, zm_f5.1, zm_f5.2.1, zm_f5.2.2, Or.inl ⟨_, zw_732, Or.inl rfl⟩⟩, zm_okw_n rfl rfl⟩, List.forall_mem_cons.mpr ⟨trivial, List.forall_mem_cons.mpr ⟨trivial, List.forall_mem_cons.mpr ⟨trivial, List.forall_mem_cons.mpr ⟨trivial, fun _ h => absurd h List.not_mem_nil⟩⟩⟩⟩⟩⟩
set_option maxRecDepth 100000 in
theorem zq_90_5 : ∀ e ∈ zm_c90_5, zm_okq 90 e.2 := List.forall_mem_cons.mpr ⟨⟨_, _, _, rfl, by decide, zm_f5.1, zm_f5.2.1, zm_f5.2.2, Or.inl ⟨_, zw_757, Or.inl rfl⟩⟩, List.forall_mem_cons.mpr ⟨trivial, List.forall_mem_cons.mpr ⟨trivial, List.forall_mem_cons.mpr ⟨trivial, List.forall_mem_cons.mpr ⟨trivial, List.forall_mem_cons.mpr ⟨trivial, fun _ h => absurd h List.not_mem_nil⟩⟩⟩⟩⟩⟩
set_option maxRecDepth 100000 in
theorem zq_90_6 : ∀ e ∈ zm_c90_6, zm_okq 90 e.2 := List.forall_mem_cons.mpr ⟨trivial, List.forall_mem_cons.mpr ⟨trivial, List.forall_mem_cons.mpr ⟨trivial, List.forall_mem_cons.mpr ⟨trivial, List.forall_mem_cons.mpr ⟨trivial, List.forall_mem_cons.mpr ⟨trivial, fun _ h => absurd h List.not_mem_nil⟩⟩⟩⟩⟩⟩
set_option maxRecDepth 100000 in
theorem zq_90_7 : ∀ e ∈ zm_c90_7, zm_okq 90 e.2 := List.forall_mem_cons.mpr ⟨trivial, List.forall_mem_cons.mpr ⟨trivial, List.forall_mem_cons.mpr ⟨trivial, List.forall_mem_cons.mpr ⟨trivial, List.forall_mem_cons.mpr ⟨⟨_, _, _, rfl, by decide, zm_f5.1, zm_f5.2.1, zm_f5.2.2, Or.inl ⟨_, zw_757, Or.inl rfl⟩⟩, List.forall_mem_cons.mpr ⟨trivial, fun _ h => absurd h List.not_mem_nil⟩⟩⟩⟩⟩⟩
set_option maxRecDepth 100000 in
theorem zq_90_8 : ∀ e ∈ zm_c90_8, zm_okq 90 e.2 := List.forall_mem_cons.mpr ⟨trivial, List.forall_mem_cons.mpr ⟨trivial, List.forall_mem_cons.mpr ⟨trivial, List.forall_mem_cons.mpr ⟨⟨_, _, _, rfl, by decide, zm_f5.1, zm_f5.2.1, zm_f5.2.2, Or.inl ⟨_, zw_757, Or.inl rfl⟩⟩, List.forall_mem_cons.mpr ⟨trivial, List.forall_mem_cons.mpr ⟨trivial, fun _ h => absurd h List.not_mem_nil⟩⟩⟩⟩⟩⟩
set_option maxRecDepth 100000 in
theorem zq_90_9 : ∀ e ∈ zm_c90_9, zm_okq 90 e.2 := List.forall_mem_cons.mpr ⟨trivial, List.forall_mem_cons.mpr ⟨trivial, List.forall_mem_cons.mpr ⟨trivial, List.forall_mem_cons.mpr ⟨⟨⟨_, _, _, rfl, by decide, zm_f5.1, zm_f5.2.1, zm_f5.2.2, Or.inl ⟨_, zw_732, Or.inl rfl⟩⟩, zm_okw_n rfl rfl⟩, List.forall_mem_cons.mpr ⟨trivial, List.forall_mem_cons.mpr ⟨trivial, fun _ h => absurd h List.not_mem_nil⟩⟩⟩⟩⟩⟩
set_option maxRecDepth 100000 in
theorem zq_90_10 : ∀ e ∈ zm_c90_10, zm_okq 90 e.2 := List.forall_mem_cons.mpr ⟨trivial, List.forall_mem_cons.mpr ⟨trivial, List.forall_mem_cons.mpr ⟨trivial, List.forall_mem_cons.mpr ⟨trivial, List.forall_mem_cons.mpr ⟨⟨_, _, _, rfl, by decide, zm_f5.1, zm_f5.2.1, zm_f5.2.2, Or.inl ⟨_, zw_758, Or.inl rfl⟩⟩, List.forall_mem_cons.mpr ⟨trivial, fun _ h => absurd h List.not_mem_nil⟩⟩⟩⟩⟩⟩
set_option maxRecDepth 100000 in
theorem zq_90_11 : ∀ e ∈ zm_c90_11, zm_okq 90 e.2 := List.forall_mem_cons.mpr ⟨trivial, List.forall_mem_cons.mpr ⟨⟨_, _, _, rfl, by decide, zm_f5.1, zm_f5.2.1, zm_f5.2.2, Or.inl ⟨_, zw_759, Or.inl rfl⟩⟩, List.forall_mem_cons.mpr ⟨trivial, List.forall_mem_cons.mpr ⟨trivial, List.forall_mem_cons.mpr ⟨trivial, List.forall_mem_cons.mpr ⟨trivial, fun _ h => absurd h List.not_mem_nil⟩⟩⟩⟩⟩⟩
set_option maxRecDepth 100000 in
theorem zq_90_12 : ∀ e ∈ zm_c90_12, zm_okq 90 e.2 := List.forall_mem_cons.mpr ⟨trivial, List.forall_mem_cons.mpr ⟨trivial, List.forall_mem_cons.mpr ⟨trivial, List.forall_mem_cons.mpr ⟨trivial, List.forall_mem_cons.mpr ⟨trivial, List.forall_mem_cons.mpr ⟨trivial, fun _ h => absurd h List.not_mem_nil⟩⟩⟩⟩⟩⟩
set_option maxRecDepth 100000 in
theorem zq_90_13 : ∀ e ∈ zm_c90_13, zm_okq 90 e.2 := List.forall_mem_cons.mpr ⟨trivial, List.forall_mem_cons.mpr ⟨trivial, List.forall_mem_cons.mpr ⟨trivial, List.forall_mem_cons.mpr ⟨trivial, List.forall_mem_cons.mpr ⟨trivial, List.forall_mem_cons.mpr ⟨trivial, fun _ h => absurd h List.not_mem_nil⟩⟩⟩⟩⟩⟩
set_option maxRecDepth 100000 in
theorem zq_90_14 : ∀ e ∈ zm_c90_14, zm_okq 90 e.2 := List.forall_mem_cons.mpr ⟨⟨_, _, _, rfl, by decide, zm_f5.1, zm_f5.2.1, zm_f5.2.2, Or.inl ⟨_, zw_748, Or.inl rfl⟩⟩, List.forall_mem_cons.mpr ⟨trivial, List.forall_mem_cons.mpr ⟨trivial, List.forall_mem_cons.mpr ⟨trivial, List.forall_mem_cons.mpr ⟨trivial, List.forall_mem_cons.mpr ⟨trivial, fun _ h => absurd h List.not_mem_nil⟩⟩⟩⟩⟩⟩
set_option maxRecDepth 100000 in
theorem zq_90_15 : ∀ e ∈ zm_c90_15, zm_okq 90 e.2 := List.forall_mem_cons.mpr ⟨⟨_, _, _, rfl, by decide, zm_f5.1, zm_f5.2.1, zm_f5.2.2, Or.inl ⟨_, zw_758, Or.inl rfl⟩⟩, List.forall_mem_cons.mpr ⟨trivial, List.forall_mem_cons.mpr ⟨trivial, List.forall_mem_cons.mpr ⟨trivial, List.forall_mem_cons.mpr ⟨trivial, List.forall_mem_cons.mpr ⟨trivial, fun _ h => absurd h List.not_mem_nil⟩⟩⟩⟩⟩⟩
set_option maxRecDepth 100000 in
theorem zq_90_16 : ∀ e ∈ zm_c90_16, zm_okq 90 e.2 := List.forall_mem_cons.mpr ⟨trivial, List.forall_mem_cons.mpr ⟨trivial, List.forall_mem_cons.mpr ⟨⟨_, _, _, rfl, by decide, zm_f5.1, zm_f5.2.1, zm_f5.2.2, Or.inl ⟨_, zw_747, Or.inl rfl⟩⟩, List.forall_mem_cons.mpr ⟨trivial, List.forall_mem_cons.mpr ⟨trivial, List.forall_mem_cons.mpr ⟨trivial, fun _ h => absurd h List.not_mem_nil⟩⟩⟩⟩⟩⟩
set_option maxRecDepth 100000 in
theorem zq_90_17 : ∀ e ∈ zm_c90_17, zm_okq 90 e.2 := List.forall_mem_cons.mpr ⟨trivial, List.forall_mem_cons.mpr ⟨trivial, List.forall_mem_cons.mpr ⟨⟨_, _, _, rfl, by decide, zm_f5.1, zm_f5.2.1, zm_f5.2.2, Or.inl ⟨_, zw_748, Or.inl rfl⟩⟩, List.forall_mem_cons.mpr ⟨trivial, List.forall_mem_cons.mpr ⟨trivial, List.forall_mem_cons.mpr ⟨trivial, fun _ h => absurd h List.not_mem_nil⟩⟩⟩⟩⟩⟩
set_option maxRecDepth 100000 in
theorem zq_90_18 : ∀ e ∈ zm_c90_18, zm_okq 90 e.2 := List.forall_mem_cons.mpr ⟨trivial, List.forall_mem_cons.mpr ⟨trivial, List.forall_mem_cons.mpr ⟨⟨_, _, _, rfl, by decide, zm_f5.1, zm_f5.2.1, zm_f5.2.2, Or.inl ⟨_, zw_749, Or.inl rfl⟩⟩, List.forall_mem_cons.mpr ⟨trivial, List.forall_mem_cons.mpr ⟨trivial, List.forall_mem_cons.mpr ⟨⟨_, _, _, rfl, by decide, zm_f5.1, zm_f5.2.1, zm_f5.2.2, Or.inl ⟨_, zw_758, Or.inl rfl⟩⟩, fun _ h => absurd h List.not_mem_nil⟩⟩⟩⟩⟩⟩
set_option maxRecDepth 100000 in
theorem zq_90_19 : ∀ e ∈ zm_c90_19, zm_okq 90 e.2 := List.forall_mem_cons.mpr ⟨trivial, List.forall_mem_cons.mpr ⟨trivial, List.forall_mem_cons.mpr ⟨⟨_, _, _, rfl, by decide, zm_f5.1, zm_f5.2.1, zm_f5.2.2, Or.inl ⟨_, zw_748, Or.inl rfl⟩⟩, List.forall_mem_cons.mpr ⟨trivial, List.forall_mem_cons.mpr ⟨trivial, List.forall_mem_cons.mpr ⟨trivial, fun _ h => absurd h List.not_mem_nil⟩⟩⟩⟩⟩⟩
set_option maxRecDepth 100000 in
theorem zq_90_20 : ∀ e ∈ zm_c90_20, zm_okq 90 e.2 := List.forall_mem_cons.mpr ⟨trivial, List.forall_mem_cons.mpr ⟨trivial, List.forall_mem_cons.mpr ⟨trivial, List.forall_mem_cons.mpr ⟨trivial, List.forall_mem_cons.mpr ⟨trivial, List.forall_mem_cons.mpr ⟨trivial, fun _ h => absurd h List.not_mem_nil⟩⟩⟩⟩⟩⟩
set_option maxRecDepth 100000 in
theorem zq_90_21 : ∀ e ∈ zm_c90_21, zm_okq 90 e.2 := List.forall_mem_cons.mpr ⟨trivial, List.forall_mem_cons.mpr ⟨⟨_, _, _, rfl, by decide, zm_f5.1, zm_f5.2.1, zm_f5.2.2, Or.inl ⟨_, zw_747, Or.inl rfl⟩⟩, List.forall_mem_cons.mpr ⟨trivial, List.forall_mem_cons.mpr ⟨trivial, List.forall_mem_cons.mpr ⟨trivial, List.forall_mem_cons.mpr ⟨trivial, fun _ h => absurd h List.not_mem_nil⟩⟩⟩⟩⟩⟩
set_option maxRecDepth 100000 in
theorem zq_90_22 : ∀ e ∈ zm_c90_22, zm_okq 90 e.2 := List.forall_mem_cons.mpr ⟨trivial, List.forall_mem_cons.mpr ⟨trivial, List.forall_mem_cons.mpr ⟨trivial, List.forall_mem_cons.mpr ⟨⟨_, _, _, rfl, by decide, zm_f5.1, zm_f5.2.1, zm_f5.2.2, Or.inl ⟨_, zw_749, Or.inl rfl⟩⟩, List.forall_mem_cons.mpr ⟨trivial, List.forall_mem_cons.mpr ⟨trivial, fun _ h => absurd h List.not_mem_nil⟩⟩⟩⟩⟩⟩
set_option maxRecDepth 100000 in
theorem zq_90_23 : ∀ e ∈ zm_c90_23, zm_okq 90 e.2 := List.forall_mem_cons.mpr ⟨trivial, List.forall_mem_cons.mpr ⟨⟨_, _, _, rfl, by decide, zm_f5.1, zm_f5.2.1, zm_f5.2.2, Or.inl ⟨_, zw_758, Or.inl rfl⟩⟩, List.forall_mem_cons.mpr ⟨trivial, List.forall_mem_cons.mpr ⟨trivial, List.forall_mem_cons.mpr ⟨trivial, List.forall_mem_cons.mpr ⟨⟨_, _, _, rfl, by decide, zm_f5.1, zm_f5.2.1, zm_f5.2.2, Or.inl ⟨_, zw_732, Or.inl rfl⟩⟩, fun _ h => absurd h List.not_mem_nil⟩⟩⟩⟩⟩⟩
set_option maxRecDepth 100000 in
theorem zq_90_24 : ∀ e ∈ zm_c90_24, zm_okq 90 e.2 := List.forall_mem_cons.mpr ⟨trivial, List.forall_mem_cons.mpr ⟨trivial, List.forall_mem_cons.mpr ⟨trivial, List.forall_mem_cons.mpr ⟨trivial, List.forall_mem_cons.mpr ⟨trivial, List.forall_mem_cons.mpr ⟨trivial, fun _ h => absurd h List.not_mem_nil⟩⟩⟩⟩⟩⟩
set_option maxRecDepth 100000 in
theorem zq_90_25 : ∀ e ∈ zm_c90_25, zm_okq 90 e.2 := List.forall_mem_cons.mpr ⟨trivial, fun _ h => absurd h List.not_mem_nil⟩
set_option maxRecDepth 100000 in
theorem zq_91_0 : ∀ e ∈ zm_c91_0, zm_okq 91 e.2 := List.forall_mem_cons.mpr ⟨trivial, List.forall_mem_cons.mpr ⟨⟨_, _, _, rfl, by decide, zm_f5.1, zm_f5.2.1, zm_f5.2.2, Or.inl ⟨_, zw_757, Or.inl rfl⟩⟩, List.forall_mem_cons.mpr ⟨trivial, List.forall_mem_cons.mpr ⟨trivial, List.forall_mem_cons.mpr ⟨trivial, List.forall_mem_cons.mpr ⟨trivial, fun _ h => absurd h List.not_mem_nil⟩⟩⟩⟩⟩⟩
set_option maxRecDepth 100000 in
theorem zq_91_1 : ∀ e ∈ zm_c91_1, zm_okq 91 e.2 := List.forall_mem_cons.mpr ⟨⟨⟨_, _, _, rfl, by decide, zm_f5.1, zm_f5.2.1, zm_f5.2.2, Or.inl ⟨_, zw_732, Or.inl rfl⟩⟩, zm_okw_n rfl rfl⟩, List.forall_mem_cons.mpr ⟨trivial, List.forall_mem_cons.mpr ⟨trivial, List.forall_mem_cons.mpr ⟨⟨_, _, _, rfl, by decide, zm_f5.1, zm_f5.2.1, zm_f5.2.2, Or.inl ⟨_, zw_758, Or.inl rfl⟩⟩, List.forall_mem_cons.mpr ⟨trivial, List.forall_mem_cons.mpr ⟨trivial, fun _ h => absurd h List.not_mem_nil⟩⟩⟩⟩⟩⟩
set_option maxRecDepth 100000 in
theorem zq_91_2 : ∀ e ∈ zm_c91_2, zm_okq 91 e.2 := List.forall_mem_cons.mpr ⟨⟨_, _, _, rfl, by decide, zm_f5.1, zm_f5.2.1, zm_f5.2.2, Or.inl ⟨_, zw_746, Or.inl rfl⟩⟩, List.forall_mem_cons.mpr ⟨trivial, List.forall_mem_cons.mpr ⟨trivial, List.forall_mem_cons.mpr ⟨trivial, List.forall_mem_cons.mpr ⟨trivial, List.forall_mem_cons.mpr ⟨⟨_, _, _, rfl, by decide, zm_f5.1, zm_f5.2.1, zm_f5.2.2, Or.inl ⟨_, zw_741, Or.inl rfl⟩⟩, fun _ h => absurd h List.not_mem_nil⟩⟩⟩⟩⟩⟩
set_option maxRecDepth 100000 in
theorem zq_91_3 : ∀ e ∈ zm_c91_3, zm_okq 91 e.2 := List.forall_mem_cons.mpr ⟨trivial, List.forall_mem_cons.mpr ⟨⟨_, _, _, rfl, by decide, zm_f5.1, zm_f5.2.1, zm_f5.2.2, Or.inl ⟨_, zw_745, Or.inl rfl⟩⟩, List.forall_mem_cons.mpr ⟨trivial, List.forall_mem_cons.mpr ⟨trivial, List.forall_mem_cons.mpr ⟨trivial, List.forall_mem_cons.mpr ⟨trivial, fun _ h => absurd h List.not_mem_nil⟩⟩⟩⟩⟩⟩
set_option maxRecDepth 100000 in
theorem zq_91_4 : ∀ e ∈ zm_c91_4, zm_okq 91 e.2 := List.forall_mem_cons.mpr ⟨trivial, List.forall_mem_cons.mpr ⟨trivial, List.forall_mem_cons.mpr ⟨trivial, List.forall_mem_cons.mpr ⟨⟨_, _, _, rfl, by decide, zm_f5.1, zm_f5.2.1, zm_f5.2.2, Or.inl ⟨_, zw_747, Or.inl rfl⟩⟩, List.forall_mem_cons.mpr ⟨trivial, List.forall_mem_cons.mpr ⟨trivial, fun _ h => absurd h List.not_mem_nil⟩⟩⟩⟩⟩⟩
set_option maxRecDepth 100000 in
theorem zq_91_5 : ∀ e ∈ zm_c91_5, zm_okq 91 e.2 := List.forall_mem_cons.mpr ⟨trivial, List.forall_mem_cons.mpr ⟨trivial, List.forall_mem_cons.mpr ⟨trivial, List.forall_mem_cons.mpr ⟨⟨_, _, _, rfl, by decide, zm_f5.1, zm_f5.2.1, zm_f5.2.2, Or.inl ⟨_, zw_742, Or.inl rfl⟩⟩, List.forall_mem_cons.mpr ⟨trivial, List.forall_mem_cons.mpr ⟨⟨_, _, _, rfl, by decide, zm_f5.1, zm_f5.2.1, zm_f5.2.2, Or.inl ⟨_, zw_745, Or.inl rfl⟩⟩, fun _ h => absurd h List.not_mem_nil⟩⟩⟩⟩⟩⟩
set_option maxRecDepth 100000 in
theorem zq_91_6 : ∀ e ∈ zm_c91_6, zm_okq 91 e.2 := List.forall_mem_cons.mpr ⟨trivial, List.forall_mem_cons.mpr ⟨⟨_, _, _, rfl, by decide, zm_f5.1, zm_f5.2.1, zm_f5.2.2, Or.inl ⟨_, zw_759, Or.inl rfl⟩⟩, List.forall_mem_cons.mpr ⟨trivial, List.forall_mem_cons.mpr ⟨trivial, List.forall_mem_cons.mpr ⟨trivial, List.forall_mem_cons.mpr ⟨⟨_, _, _, rfl, by decide, zm_f5.1, zm_f5.2.1, zm_f5.2.2, Or.inl ⟨_, zw_745, Or.inl rfl⟩⟩, fun _ h => absurd h List.not_mem_nil⟩⟩⟩⟩⟩⟩
set_option maxRecDepth 100000 in
theorem zq_91_7 : ∀ e ∈ zm_c91_7, zm_okq 91 e.2 := List.forall_mem_cons.mpr ⟨trivial, List.forall_mem_cons.mpr ⟨trivial, List.forall_mem_cons.mpr ⟨⟨⟨_, _, _, rfl, by decide, zm_f5.1, zm_f5.2.1, zm_f5.2.2, Or.inl ⟨_, zw_745, Or.inl rfl⟩⟩, zm_okw_n rfl rfl⟩, List.forall_mem_cons.mpr ⟨trivial, List.forall_mem_cons.mpr ⟨⟨_, _, _, rfl, by decide, zm_f5.1, zm_f5.2.1, zm_f5.2.2, Or.inl ⟨_, zw_745, Or.inl rfl⟩⟩, List.forall_mem_cons.mpr ⟨trivial, fun _ h => absurd h List.not_mem_nil⟩⟩⟩⟩⟩⟩
set_option maxRecDepth 100000 in
theorem zq_91_8 : ∀ e ∈ zm_c91_8, zm_okq 91 e.2 := List.forall_mem_cons.mpr ⟨trivial, List.forall_mem_cons.mpr ⟨trivial, List.forall_mem_cons.mpr ⟨trivial, List.forall_mem_cons.mpr ⟨trivial, List.forall_mem_cons.mpr ⟨trivial, List.forall_mem_cons.mpr ⟨trivial, fun _ h => absurd h List.not_mem_nil⟩⟩⟩⟩⟩⟩
set_option maxRecDepth 100000 in
theorem zq_91_9 : ∀ e ∈ zm_c91_9, zm_okq 91 e.2 := List.forall_mem_cons.mpr ⟨trivial, List.forall_mem_cons.mpr ⟨⟨_, _, _, rfl, by decide, zm_f5.1, zm_f5.2.1, zm_f5.2.2, Or.inl ⟨_, zw_727, Or.inl rfl⟩⟩, List.forall_mem_cons.mpr ⟨trivial, List.forall_mem_cons.mpr ⟨trivial, List.forall_mem_cons.mpr ⟨trivial, List.forall_mem_cons.mpr ⟨trivial, fun _ h => absurd h List.not_mem_nil⟩⟩⟩⟩⟩⟩
set_option maxRecDepth 100000 in
theorem zq_91_10 : ∀ e ∈ zm_c91_10, zm_okq 91 e.2 := List.forall_mem_cons.mpr ⟨trivial, List.forall_mem_cons.mpr ⟨⟨⟨_, _, _, rfl, by decide, zm_f5.1, zm_f5.2.1, zm_f5.2.2, Or.inl ⟨_, zw_732, Or.inl rfl⟩⟩, zm_okw_n rfl rfl⟩, List.forall_mem_cons.mpr ⟨trivial, List.forall_mem_cons.mpr ⟨trivial, List.forall_mem_cons.mpr ⟨trivial, List.forall_mem_cons.mpr ⟨⟨_, _, _, rfl, by decide, zm_f5.1, zm_f5.2.1, zm_f5.2.2, Or.inl ⟨_, zw_725, Or.inl rfl⟩⟩, fun _ h => absurd h List.not_mem_nil⟩⟩⟩⟩⟩⟩
set_option maxRecDepth 100000 in
theorem zq_91_11 : ∀ e ∈ zm_c91_11, zm_okq 91 e.2 := List.forall_mem_cons.mpr ⟨trivial, List.forall_mem_cons.mpr ⟨trivial, List.forall_mem_cons.mpr ⟨trivial, List.forall_mem_cons.mpr ⟨trivial, List.forall_mem_cons.mpr ⟨trivial, List.forall_mem_cons.mpr ⟨trivial, fun _ h => absurd h List.not_mem_nil⟩⟩⟩⟩⟩⟩
set_option maxRecDepth 100000 in
theorem zq_91_12 : ∀ e ∈ zm_c91_12, zm_okq 91 e.2 := List.forall_mem_cons.mpr ⟨trivial, List.forall_mem_cons.mpr ⟨trivial, List.forall_mem_cons.mpr ⟨trivial, List.forall_mem_cons.mpr ⟨trivial, List.forall_mem_cons.mpr ⟨trivial, List.forall_mem_cons.mpr ⟨trivial, fun _ h => absurd h List.not_mem_nil⟩⟩⟩⟩⟩⟩
set_option maxRecDepth 100000 in
theorem zq_91_13 : ∀ e ∈ zm_c91_13, zm_okq 91 e.2 := List.forall_mem_cons.mpr ⟨trivial, List.forall_mem_cons.mpr ⟨trivial, List.forall_mem_cons.mpr ⟨trivial, fun _ h => absurd h List.not_mem_nil⟩⟩⟩
set_option maxRecDepth 100000 in
theorem zq_92_0 : ∀ e ∈ zm_c92_0, zm_okq 92 e.2 := List.forall_mem_cons.mpr ⟨trivial, List.forall_mem_cons.mpr ⟨⟨_, _, _, rfl, by decide, zm_f5.1, zm_f5.2.1, zm_f5.2.2, Or.inl ⟨_, zw_721, Or.inl rfl⟩⟩, List.forall_mem_cons.mpr ⟨trivial, List.forall_mem_cons.mpr ⟨trivial, List.forall_mem_cons.mpr ⟨trivial, List.forall_mem_cons.mpr ⟨trivial, fun _ h => absurd h List.not_mem_nil⟩⟩⟩⟩⟩⟩
set_option maxRecDepth 100000 in
theorem zq_92_1 : ∀ e ∈ zm_c92_1, zm_okq 92 e.2 := List.forall_mem_cons.mpr ⟨trivial, List.forall_mem_cons.mpr ⟨trivial, List.forall_mem_cons.mpr ⟨trivial, List.forall_mem_cons.mpr ⟨trivial, List.forall_mem_cons.mpr ⟨⟨_, _, _, rfl, by decide, zm_f5.1, zm_f5.2.1, zm_f5.2.2, Or.inl ⟨_, zw_721, Or.inl rfl⟩⟩, List.forall_mem_cons.mpr ⟨trivial, fun _ h => absurd h List.not_mem_nil⟩⟩⟩⟩⟩⟩
set_option maxRecDepth 100000 in
theorem zq_92_2 : ∀ e ∈ zm_c92_2, zm_okq 92 e.2 := List.forall_mem_cons.mpr ⟨trivial, List.forall_mem_cons.mpr ⟨trivial, List.forall_mem_cons.mpr ⟨trivial, List.forall_mem_cons.mpr ⟨trivial, List.forall_mem_cons.mpr ⟨trivial, List.forall_mem_cons.mpr ⟨⟨_, _, _, rfl, by decide, zm_f5.1, zm_f5.2.1, zm_f5.2.2, Or.inl ⟨_, zw_733, Or.inl rfl⟩⟩, fun _ h => absurd h List.not_mem_nil⟩⟩⟩⟩⟩⟩
set_option maxRecDepth 100000 in
theorem zq_92_3 : ∀ e ∈ zm_c92_3, zm_okq 92 e.2 := List.forall_mem_cons.mpr ⟨trivial, List.forall_mem_cons.mpr ⟨⟨_, _, _, rfl, by decide, zm_f5.1, zm_f5.2.1, zm_f5.2.2, Or.inl ⟨_, zw_743, Or.inl rfl⟩⟩, List.forall_mem_cons.mpr ⟨trivial, List.forall_mem_cons.mpr ⟨trivial, List.forall_mem_cons.mpr ⟨trivial, List.forall_mem_cons.mpr ⟨⟨_, _, _, rfl, by decide, zm_f5.1, zm_f5.2.1, zm_f5.2.2, Or.inl ⟨_, zw_734, Or.inl rfl⟩⟩, fun _ h => absurd h List.not_mem_nil⟩⟩⟩⟩⟩⟩
set_option maxRecDepth 100000 in
theorem zq_92_4 : ∀ e ∈ zm_c92_4, zm_okq 92 e.2 := List.forall_mem_cons.mpr ⟨trivial, List.forall_mem_cons.mpr ⟨⟨_, _, _, rfl, by decide, zm_f5.1, zm_f5.2.1, zm_f5.2.2, Or.inl ⟨_, zw_743, Or.inl rfl⟩⟩, List.forall_mem_cons.mpr ⟨trivial, List.forall_mem_cons.mpr ⟨trivial, List.forall_mem_cons.mpr ⟨trivial, List.forall_mem_cons.mpr ⟨⟨_, _, _, rfl, by decide, zm_f5.1, zm_f5.2.1, zm_f5.2.2, Or.inl ⟨_, zw_735, Or.inl rfl⟩⟩, fun _ h => absurd h List.not_mem_nil⟩⟩⟩⟩⟩⟩
set_option maxRecDepth 100000 in
theorem zq_92_5 : ∀ e ∈ zm_c92_5, zm_okq 92 e.2 := List.forall_mem_cons.mpr ⟨trivial, List.forall_mem_cons.mpr ⟨⟨_, _, _, rfl, by decide, zm_f5.1, zm_f5.2.1, zm_f5.2.2, Or.inl ⟨_, zw_743, Or.inl rfl⟩⟩, List.forall_mem_cons.mpr ⟨trivial, List.forall_mem_cons.mpr ⟨trivial, List.forall_mem_cons.mpr ⟨trivial, List.forall_mem_cons.mpr ⟨trivial, fun _ h => absurd h List.not_mem_nil⟩⟩⟩⟩⟩⟩
set_option maxRecDepth 100000 in
theorem zq_92_6 : ∀ e ∈ zm_c92_6, zm_okq 92 e.2 := List.forall_mem_cons.mpr ⟨⟨_, _, _, rfl, by decide, zm_f5.1, zm_f5.2.1, zm_f5.2.2, Or.inl ⟨_, zw_743, Or.inl rfl⟩⟩, List.forall_mem_cons.mpr ⟨trivial, List.forall_mem_cons.mpr ⟨trivial, List.forall_mem_cons.mpr ⟨⟨⟨_, _, _, rfl, by decide, zm_f5.1, zm_f5.2.1, zm_f5.2.2, Or.inl ⟨_, zw_743, Or.inl rfl⟩⟩, zm_okw_n rfl rfl⟩, List.forall_mem_cons.mpr ⟨trivial, List.forall_mem_cons.mpr ⟨⟨_, _, _, rfl, by decide, zm_f5.1, zm_f5.2.1, zm_f5.2.2, Or.inl ⟨_, zw_743, Or.inl rfl⟩⟩, fun _ h => absurd h List.not_mem_nil⟩⟩⟩⟩⟩⟩
set_option maxRecDepth 100000 in
theorem zq_92_7 : ∀ e ∈ zm_c92_7, zm_okq 92 e.2 := List.forall_mem_cons.mpr ⟨trivial, List.forall_mem_cons.mpr ⟨trivial, List.forall_mem_cons.mpr ⟨trivial, fun _ h => absurd h List.not_mem_nil⟩⟩⟩
set_option maxRecDepth 100000 in
theorem zq_93_0 : ∀ e ∈ zm_c93_0, zm_okq 93 e.2 := List.forall_mem_cons.mpr ⟨trivial, List.forall_mem_cons.mpr ⟨trivial, List.forall_mem_cons.mpr ⟨trivial, List.forall_mem_cons.mpr ⟨trivial, List.forall_mem_cons.mpr ⟨trivial, List.forall_mem_cons.mpr ⟨⟨_, _, _, rfl, by decide, zm_f5.1, zm_f5.2.1, zm_f5.2.2, Or.inl ⟨_, zw_739, Or.inl rfl⟩⟩, fun _ h => absurd h List.not_mem_nil⟩⟩⟩⟩⟩⟩
set_option maxRecDepth 100000 in
theorem zq_93_1 : ∀ e ∈ zm_c93_1, zm_okq 93 e.2 := List.forall_mem_cons.mpr ⟨trivial, List.forall_mem_cons.mpr ⟨trivial, List.forall_mem_cons.mpr ⟨trivial, List.forall_mem_cons.mpr ⟨trivial, List.forall_mem_cons.mpr ⟨trivial, List.forall_mem_cons.mpr ⟨trivial, fun _ h => absurd h List.not_mem_nil⟩⟩⟩⟩⟩⟩
set_option maxRecDepth 100000 in
theorem zq_93_2 : ∀ e ∈ zm_c93_2, zm_okq 93 e.2 := List.forall_mem_cons.mpr ⟨trivial, List.forall_mem_cons.mpr ⟨⟨_, _, _, rfl, by decide, zm_f5.1, zm_f5.2.1, zm_f5.2.2, Or.inl ⟨_, zw_740, Or.inl rfl⟩⟩, List.forall_mem_cons.mpr ⟨trivial, List.forall_mem_cons.mpr ⟨trivial, List.forall_mem_cons.mpr ⟨trivial, fun _ h => absurd h List.not_mem_nil⟩⟩⟩⟩⟩
set_option maxRecDepth 100000 in
theorem zq_94_0 : ∀ e ∈ zm_c94_0, zm_okq 94 e.2 := List.forall_mem_cons.mpr ⟨trivial, List.forall_mem_cons.mpr ⟨trivial, List.forall_mem_cons.mpr ⟨trivial, List.forall_mem_cons.mpr ⟨trivial, List.forall_mem_cons.mpr ⟨trivial, List.forall_mem_cons.mpr ⟨trivial, fun _ h => absurd h List.not_mem_nil⟩⟩⟩⟩⟩⟩
set_option maxRecDepth 100000 in
theorem zq_94_1 : ∀ e ∈ zm_c94_1, zm_okq 94 e.2 := List.forall_mem_cons.mpr ⟨trivial, List.forall_mem_cons.mpr ⟨trivial, List.forall_mem_cons.mpr ⟨⟨_, _, _, rfl, by decide, zm_f5.1, zm_f5.2.1, zm_f5.2.2, Or.inl ⟨_, zw_742, Or.inl rfl⟩⟩, List.forall_mem_cons.mpr ⟨trivial, List.forall_mem_cons.mpr ⟨trivial, List.forall_mem_cons.mpr ⟨trivial, fun _ h => absurd h List.not_mem_nil⟩⟩⟩⟩⟩⟩
set_option maxRecDepth 100000 in
theorem zq_94_2 : ∀ e ∈ zm_c94_2, zm_okq 94 e.2 := List.forall_mem_cons.mpr ⟨trivial, List.forall_mem_cons.mpr ⟨trivial, List.forall_mem_cons.mpr ⟨trivial, fun _ h => absurd h List.not_mem_nil⟩⟩⟩
set_option maxRecDepth 100000 in
theorem zq_95_0 : ∀ e ∈ zm_c95_0, zm_okq 95 e.2 := List.forall_mem_cons.mpr ⟨trivial, List.forall_mem_cons.mpr ⟨⟨_, _, _, rfl, by decide, zm_f5.1, zm_f5.2.1, zm_f5.2.2, Or.inl ⟨_, zw_753, Or.inl rfl⟩⟩, List.forall_mem_cons.mpr ⟨trivial, List.forall_mem_cons.mpr ⟨trivial, List.forall_mem_cons.mpr ⟨trivial, List.forall_mem_cons.mpr ⟨trivial, fun _ h => absurd h List.not_mem_nil⟩⟩⟩⟩⟩⟩
set_option maxRecDepth 100000 in
theorem zq_95_1 : ∀ e ∈ zm_c95_1, zm_okq 95 e.2 := List.forall_mem_cons.mpr ⟨⟨⟨_, _, _, rfl, by decide, zm_f5.1, zm_f5.2.1, zm_f5.2.2, Or.inl ⟨_, zw_732, Or.inl rfl⟩⟩, zm_okw_n rfl rfl⟩, List.forall_mem_cons.mpr ⟨trivial, List.forall_mem_cons.mpr ⟨trivial, List.forall_mem_cons.mpr ⟨trivial, List.forall_mem_cons.mpr ⟨⟨_, _, _, rfl, by decide, zm_f5.1, zm_f5.2.1, zm_f5.2.2, Or.inl ⟨_, zw_753, Or.inl rfl⟩⟩, List.forall_mem_cons.mpr ⟨trivial, fun _ h => absurd h List.not_mem_nil⟩⟩⟩⟩⟩⟩
set_option maxRecDepth 100000 in
theorem zq_95_2 : ∀ e ∈ zm_c95_2, zm_okq 95 e.2 := List.forall_mem_cons.mpr ⟨trivial, List.forall_mem_cons.mpr ⟨⟨⟨_, _, _, rfl, by decide, zm_f5.1, zm_f5.2.1, zm_f5.2.2, Or.inl ⟨_, zw_753, Or.inl rfl⟩⟩, zm_okw_n rfl rfl⟩, List.forall_mem_cons.mpr ⟨trivial, List.forall_mem_cons.mpr ⟨trivial, List.forall_mem_cons.mpr ⟨⟨_, _, _, rfl, by decide, zm_f5.1, zm_f5.2.1, zm_f5.2.2, Or.inl ⟨_, zw_754, Or.inl rfl⟩⟩, List.forall_mem_cons.mpr ⟨trivial, fun _ h => absurd h List.not_mem_nil⟩⟩⟩⟩⟩⟩
set_option maxRecDepth 100000 in
theorem zq_95_3 : ∀ e ∈ zm_c95_3, zm_okq 95 e.2 := List.forall_mem_cons.mpr ⟨trivial, List.forall_mem_cons.mpr ⟨⟨⟨_, _, _, rfl, by decide, zm_f5.1, zm_f5.2.1, zm_f5.2.2, Or.inl ⟨_, zw_754, Or.inl rfl⟩⟩, zm_okw_n rfl rfl⟩, List.forall_mem_cons.mpr ⟨trivial, List.forall_mem_cons.mpr ⟨trivial, List.forall_mem_cons.mpr ⟨trivial, List.forall_mem_cons.mpr ⟨⟨_, _, _, rfl, by decide, zm_f5.1, zm_f5.2.1, zm_f5.2.2, Or.inl ⟨_, zw_744, Or.inl rfl⟩⟩, fun _ h => absurd h List.not_mem_nil⟩⟩⟩⟩⟩⟩
set_option maxRecDepth 100000 in
theorem zq_95_4 : ∀ e ∈ zm_c95_4, zm_okq 95 e.2 := List.forall_mem_cons.mpr ⟨trivial, List.forall_mem_cons.mpr ⟨trivial, List.forall_mem_cons.mpr ⟨trivial, List.forall_mem_cons.mpr ⟨⟨_, _, _, rfl, by decide, zm_f5.1, zm_f5.2.1, zm_f5.2.2, Or.inl ⟨_, zw_744, Or.inl rfl⟩⟩, List.forall_mem_cons.mpr ⟨trivial, List.forall_mem_cons.mpr ⟨trivial, fun _ h => absurd h List.not_mem_nil⟩⟩⟩⟩⟩⟩
set_option maxRecDepth 100000 in
theorem zq_95_5 : ∀ e ∈ zm_c95_5, zm_okq 95 e.2 := List.forall_mem_cons.mpr ⟨⟨⟨_, _, _, rfl, by decide, zm_f5.1, zm_f5.2.1, zm_f5.2.2, Or.inl ⟨_, zw_744, Or.inl rfl⟩⟩, zm_okw_n rfl rfl⟩, List.forall_mem_cons.mpr ⟨trivial, List.forall_mem_cons.mpr ⟨trivial, List.forall_mem_cons.mpr ⟨trivial, List.forall_mem_cons.mpr ⟨trivial, List.forall_mem_cons.mpr ⟨trivial, fun _ h => absurd h List.not_mem_nil⟩⟩⟩⟩⟩⟩
set_option maxRecDepth 100000 in
theorem zq_95_6 : ∀ e ∈ zm_c95_6, zm_okq 95 e.2 := List.forall_mem_cons.mpr ⟨trivial, List.forall_mem_cons.mpr ⟨⟨_, _, _, rfl, by decide, zm_f5.1, zm_f5.2.1, zm_f5.2.2, Or.inl ⟨_, zw_739, Or.inl rfl⟩⟩, List.forall_mem_cons.mpr ⟨trivial, List.forall_mem_cons.mpr ⟨trivial, List.forall_mem_cons.mpr ⟨trivial, List.forall_mem_cons.mpr ⟨trivial, fun _ h => absurd h List.not_mem_nil⟩⟩⟩⟩⟩⟩
set_option maxRecDepth 100000 in
theorem zq_95_7 : ∀ e ∈ zm_c95_7, zm_okq 95 e.2 := List.forall_mem_cons.mpr ⟨trivial, List.forall_mem_cons.mpr ⟨trivial, List.forall_mem_cons.mpr ⟨trivial, List.forall_mem_cons.mpr ⟨trivial, List.forall_mem_cons.mpr ⟨trivial, List.forall_mem_cons.mpr ⟨trivial, fun _ h => absurd h List.not_mem_nil⟩⟩⟩⟩⟩⟩
set_option maxRecDepth 100000 in
theorem zq_95_8 : ∀ e ∈ zm_c95_8, zm_okq 95 e.2 := List.forall_mem_cons.mpr ⟨trivial, List.forall_mem_cons.mpr ⟨trivial, List.forall_mem_cons.mpr ⟨trivial, List.forall_mem_cons.mpr ⟨trivial, List.forall_mem_cons.mpr ⟨trivial, List.forall_mem_cons.mpr ⟨trivial, fun _ h => absurd h List.not_mem_nil⟩⟩⟩⟩⟩⟩
set_option maxRecDepth 100000 in
theorem zq_95_9 : ∀ e ∈ zm_c95_9, zm_okq 95 e.2 := List.forall_mem_cons.mpr ⟨trivial, List.forall_mem_cons.mpr ⟨⟨_, _, _, rfl, by decide, zm_f5.1, zm_f5.2.1, zm_f5.2.2, Or.inl ⟨_, zw_725, Or.inl rfl⟩⟩, List.forall_mem_cons.mpr ⟨trivial, List.forall_mem_cons.mpr ⟨trivial, List.forall_mem_cons.mpr ⟨trivial, List.forall_mem_cons.mpr ⟨trivial, fun _ h => absurd h List.not_mem_nil⟩⟩⟩⟩⟩⟩
set_option maxRecDepth 100000 in
theorem zq_95_10 : ∀ e ∈ zm_c95_10, zm_okq 95 e.2 := List.forall_mem_cons.mpr ⟨⟨_, _, _, rfl, by decide, zm_f5.1, zm_f5.2.1, zm_f5.2.2, Or.inl ⟨_, zw_739, Or.inl rfl⟩⟩, List.forall_mem_cons.mpr ⟨trivial, List.forall_mem_cons.mpr ⟨trivial, List.forall_mem_cons.mpr ⟨trivial, List.forall_mem_cons.mpr ⟨trivial, List.forall_mem_cons.mpr ⟨trivial, fun _ h => absurd h List.not_mem_nil⟩⟩⟩⟩⟩⟩
set_option maxRecDepth 100000 in
theorem zq_95_11 : ∀ e ∈ zm_c95_11, zm_okq 95 e.2 := List.forall_mem_cons.mpr ⟨trivial, List.forall_mem_cons.mpr ⟨⟨_, _, _, rfl, by decide, zm_f5.1, zm_f5.2.1, zm_f5.2.2, Or.inl ⟨_, zw_724, Or.inl rfl⟩⟩, List.forall_mem_cons.mpr ⟨trivial, List.forall_mem_cons.mpr ⟨trivial, List.forall_mem_cons.mpr ⟨trivial, List.forall_mem_cons.mpr ⟨trivial, fun _ h => absurd h List.not_mem_nil⟩⟩⟩⟩⟩⟩
set_option maxRecDepth 100000 in
theorem zq_95_12 : ∀ e ∈ zm_c95_12, zm_okq 95 e.2 := List.forall_mem_cons.mpr ⟨trivial, List.forall_mem_cons.mpr ⟨trivial, List.forall_mem_cons.mpr ⟨trivial, List.forall_mem_cons.mpr ⟨trivial, List.forall_mem_cons.mpr ⟨⟨_, _, _, rfl, by decide, zm_f5.1, zm_f5.2.1, zm_f5.2.2, Or.inl ⟨_, zw_740, Or.inl rfl⟩⟩, List.forall_mem_cons.mpr ⟨trivial, fun _ h => absurd h List.not_mem_nil⟩⟩⟩⟩⟩⟩
set_option maxRecDepth 100000 in
theorem zq_95_13 : ∀ e ∈ zm_c95_13, zm_okq 95 e.2 := List.forall_mem_cons.mpr ⟨trivial, List.forall_mem_cons.mpr ⟨trivial, List.forall_mem_cons.mpr ⟨trivial, List.forall_mem_cons.mpr ⟨trivial, List.forall_mem_cons.mpr ⟨trivial, List.forall_mem_cons.mpr ⟨⟨_, _, _, rfl, by decide, zm_f5.1, zm_f5.2.1, zm_f5.2.2, Or.inl ⟨_, zw_741, Or.inl rfl⟩⟩, fun _ h => absurd h List.not_mem_nil⟩⟩⟩⟩⟩⟩
set_option maxRecDepth 100000 in
theorem zq_95_14 : ∀ e ∈ zm_c95_14, zm_okq 95 e.2 := List.forall_mem_cons.mpr ⟨trivial, List.forall_mem_cons.mpr ⟨trivial, List.forall_mem_cons.mpr ⟨trivial, List.forall_mem_cons.mpr ⟨trivial, List.forall_mem_cons.mpr ⟨⟨_, _, _, rfl, by decide, zm_f5.1, zm_f5.2.1, zm_f5.2.2, Or.inl ⟨_, zw_742, Or.inl rfl⟩⟩, List.forall_mem_cons.mpr ⟨trivial, fun _ h => absurd h List.not_mem_nil⟩⟩⟩⟩⟩⟩
set_option maxRecDepth 100000 in
theorem zq_95_15 : ∀ e ∈ zm_c95_15, zm_okq 95 e.2 := List.forall_mem_cons.mpr ⟨trivial, List.forall_mem_cons.mpr ⟨trivial, List.forall_mem_cons.mpr ⟨trivial, List.forall_mem_cons.mpr ⟨trivial, List.forall_mem_cons.mpr ⟨trivial, List.forall_mem_cons.mpr ⟨⟨_, _, _, rfl, by decide, zm_f5.1, zm_f5.2.1, zm_f5.2.2, Or.inl ⟨_, zw_748, Or.inl rfl⟩⟩, fun _ h => absurd h List.not_mem_nil⟩⟩⟩⟩⟩⟩
set_option maxRecDepth 100000 in
theorem zq_95_16 : ∀ e ∈ zm_c95_16, zm_okq 95 e.2 := List.forall_mem_cons.mpr ⟨trivial, List.forall_mem_cons.mpr ⟨⟨_, _, _, rfl, by decide, zm_f5.1, zm_f5.2.1, zm_f5.2.2, Or.inl ⟨_, zw_751, Or.inl rfl⟩⟩, List.forall_mem_cons.mpr ⟨trivial, List.forall_mem_cons.mpr ⟨trivial, List.forall_mem_cons.mpr ⟨trivial, List.forall_mem_cons.mpr ⟨trivial, fun _ h => absurd h List.not_mem_nil⟩⟩⟩⟩⟩⟩
set_option maxRecDepth 100000 in
theorem zq_95_17 : ∀ e ∈ zm_c95_17, zm_okq 95 e.2 := List.forall_mem_cons.mpr ⟨⟨_, _, _, rfl, by decide, zm_f5.1, zm_f5.2.1, zm_f5.2.2, Or.inl ⟨_, zw_723, Or.inl rfl⟩⟩, List.forall_mem_cons.mpr ⟨trivial, List.forall_mem_cons.mpr ⟨trivial, List.forall_mem_cons.mpr ⟨trivial, List.forall_mem_cons.mpr ⟨trivial, List.forall_mem_cons.mpr ⟨trivial, fun _ h => absurd h List.not_mem_nil⟩⟩⟩⟩⟩⟩
set_option maxRecDepth 100000 in
theorem zq_96_0 : ∀ e ∈ zm_c96_0, zm_okq 96 e.2 := List.forall_mem_cons.mpr ⟨trivial, List.forall_mem_cons.mpr ⟨⟨_, _, _, rfl, by decide, zm_f5.1, zm_f5.2.1, zm_f5.2.2, Or.inl ⟨_, zw_735, Or.inl rfl⟩⟩, List.forall_mem_cons.mpr ⟨trivial, List.forall_mem_cons.mpr ⟨trivial, List.forall_mem_cons.mpr ⟨trivial, List.forall_mem_cons.mpr ⟨trivial, fun _ h => absurd h List.not_mem_nil⟩⟩⟩⟩⟩⟩
set_option maxRecDepth 100000 in
theorem zq_96_1 : ∀ e ∈ zm_c96_1, zm_okq 96 e.2 := List.forall_mem_cons.mpr ⟨trivial, List.forall_mem_cons.mpr ⟨trivial, List.forall_mem_cons.mpr ⟨⟨_, _, _, rfl, by decide, zm_f5.1, zm_f5.2.1, zm_f5.2.2, Or.inl ⟨_, zw_756, Or.inl rfl⟩⟩, List.forall_mem_cons.mpr ⟨trivial, List.forall_mem_cons.mpr ⟨trivial, List.forall_mem_cons.mpr ⟨⟨⟨_, _, _, rfl, by decide, zm_f5.1, zm_f5.2.1, zm_f5.2.2, Or.inl ⟨_, zw_756, Or.inl rfl⟩⟩, zm_okw_n rfl rfl⟩, fun _ h => absurd h List.not_mem_nil⟩⟩⟩⟩⟩⟩
set_option maxRecDepth 100000 in
theorem zq_96_2 : ∀ e ∈ zm_c96_2, zm_okq 96 e.2 := List.forall_mem_cons.mpr ⟨trivial, List.forall_mem_cons.mpr ⟨trivial, List.forall_mem_cons.mpr ⟨trivial, List.forall_mem_cons.mpr ⟨trivial, List.forall_mem_cons.mpr ⟨trivial, List.forall_mem_cons.mpr ⟨⟨_, _, _, rfl, by decide, zm_f5.1, zm_f5.2.1, zm_f5.2.2, Or.inl ⟨_, zw_735, Or.inl rfl⟩⟩, fun _ h => absurd h List.not_mem_nil⟩⟩⟩⟩⟩⟩
set_option maxRecDepth 100000 in
theorem zq_96_3 : ∀ e ∈ zm_c96_3, zm_okq 96 e.2 := List.forall_mem_cons.mpr ⟨trivial, List.forall_mem_cons.mpr ⟨trivial, List.forall_mem_cons.mpr ⟨trivial, List.forall_mem_cons.mpr ⟨trivial, List.forall_mem_cons.mpr ⟨trivial, List.forall_mem_cons.mpr ⟨trivial, fun _ h => absurd h List.not_mem_nil⟩⟩⟩⟩⟩⟩
set_option maxRecDepth 100000 in
theorem zq_96_4 : ∀ e ∈ zm_c96_4, zm_okq 96 e.2 := List.forall_mem_cons.mpr ⟨⟨⟨_, _, _, rfl, by decide, zm_f5.1, zm_f5.2.1, zm_f5.2.2, Or.inl ⟨_, zw_732, Or.inl rfl⟩⟩, zm_okw_n rfl rfl⟩, List.forall_mem_cons.mpr ⟨trivial, List.forall_mem_cons.mpr ⟨trivial, List.forall_mem_cons.mpr ⟨trivial, List.forall_mem_cons.mpr ⟨⟨_, _, _, rfl, by decide, zm_f5.1, zm_f5.2.1, zm_f5.2.2, Or.inl ⟨_, zw_755, Or.inl rfl⟩⟩, List.forall_mem_cons.mpr ⟨trivial, fun _ h => absurd h List.not_mem_nil⟩⟩⟩⟩⟩⟩
set_option maxRecDepth 100000 in
theorem zq_96_5 : ∀ e ∈ zm_c96_5, zm_okq 96 e.2 := List.forall_mem_cons.mpr ⟨trivial, List.forall_mem_cons.mpr ⟨⟨⟨_, _, _, rfl, by decide, zm_f5.1, zm_f5.2.1, zm_f5.2.2, Or.inl ⟨_, zw_755, Or.inl rfl⟩⟩, zm_okw_n rfl rfl⟩, List.forall_mem_cons.mpr ⟨trivial, List.forall_mem_cons.mpr ⟨⟨_, _, _, rfl, by decide, zm_f5.1, zm_f5.2.1, zm_f5.2.2, Or.inl ⟨_, zw_735, Or.inl rfl⟩⟩, List.forall_mem_cons.mpr ⟨trivial, List.forall_mem_cons.mpr ⟨trivial, fun _ h => absurd h List.not_mem_nil⟩⟩⟩⟩⟩⟩
set_option maxRecDepth 100000 in
theorem zq_96_6 : ∀ e ∈ zm_c96_6, zm_okq 96 e.2 := List.forall_mem_cons.mpr ⟨trivial, List.forall_mem_cons.mpr ⟨trivial, List.forall_mem_cons.mpr ⟨⟨_, _, _, rfl, by decide, zm_f5.1, zm_f5.2.1, zm_f5.2.2, Or.inl ⟨_, zw_750, Or.inl rfl⟩⟩, List.forall_mem_cons.mpr ⟨trivial, List.forall_mem_cons.mpr ⟨⟨_, _, _, rfl, by decide, zm_f5.1, zm_f5.2.1, zm_f5.2.2, Or.inl ⟨_, zw_751, Or.inl rfl⟩⟩, List.forall_mem_cons.mpr ⟨trivial, fun _ h => absurd h List.not_mem_nil⟩⟩⟩⟩⟩⟩
set_option maxRecDepth 100000 in
theorem zq_96_7 : ∀ e ∈ zm_c96_7, zm_okq 96 e.2 := List.forall_mem_cons.mpr ⟨trivial, List.forall_mem_cons.mpr ⟨trivial, List.forall_mem_cons.mpr ⟨⟨_, _, _, rfl, by decide, zm_f5.1, zm_f5.2.1, zm_f5.2.2, Or.inl ⟨_, zw_748, Or.inl rfl⟩⟩, List.forall_mem_cons.mpr ⟨trivial, List.forall_mem_cons.mpr ⟨⟨_, _, _, rfl, by decide, zm_f5.1, zm_f5.2.1, zm_f5.2.2, Or.inl ⟨_, zw_751, Or.inl rfl⟩⟩, List.forall_mem_cons.mpr ⟨trivial, fun _ h => absurd h List.not_mem_nil⟩⟩⟩⟩⟩⟩
set_option maxRecDepth 100000 in
theorem zq_96_8 : ∀ e ∈ zm_c96_8, zm_okq 96 e.2 := List.forall_mem_cons.mpr ⟨trivial, List.forall_mem_cons.mpr ⟨trivial, List.forall_mem_cons.mpr ⟨trivial, List.forall_mem_cons.mpr ⟨⟨_, _, _, rfl, by decide, zm_f5.1, zm_f5.2.1, zm_f5.2.2, Or.inl ⟨_, zw_733, Or.inl rfl⟩⟩, List.forall_mem_cons.mpr ⟨trivial, List.forall_mem_cons.mpr ⟨trivial, fun _ h => absurd h List.not_mem_nil⟩⟩⟩⟩⟩⟩
set_option maxRecDepth 100000 in
theorem zq_96_9 : ∀ e ∈ zm_c96_9, zm_okq 96 e.2 := List.forall_mem_cons.mpr ⟨trivial, List.forall_mem_cons.mpr ⟨⟨_, _, _, rfl, by decide, zm_f5.1, zm_f5.2.1, zm_f5.2.2, Or.inl ⟨_, zw_734, Or.inl rfl⟩⟩, List.forall_mem_cons.mpr ⟨trivial, List.forall_mem_cons.mpr ⟨trivial, List.forall_mem_cons.mpr ⟨trivial, List.forall_mem_cons.mpr ⟨trivial, fun _ h => absurd h List.not_mem_nil⟩⟩⟩⟩⟩⟩
set_option maxRecDepth 100000 in
theorem zq_97_0 : ∀ e ∈ zm_c97_0, zm_okq 97 e.2 := List.forall_mem_cons.mpr ⟨trivial, List.forall_mem_cons.mpr ⟨⟨_, _, _, rfl, by decide, zm_f5.1, zm_f5.2.1, zm_f5.2.2, Or.inl ⟨_, zw_757, Or.inl rfl⟩⟩, List.forall_mem_cons.mpr ⟨trivial, List.forall_mem_cons.mpr ⟨trivial, List.forall_mem_cons.mpr ⟨trivial, List.forall_mem_cons.mpr ⟨⟨⟨_, _, _, rfl, by decide, zm_f5.1, zm_f5.2.1, zm_f5.2.2, Or.inl ⟨_, zw_732, Or.inl rfl⟩⟩, zm_okw_n rfl rfl⟩, fun _ h => absurd h List.not_mem_nil⟩⟩⟩⟩⟩⟩
set_option maxRecDepth 100000 in
theorem zq_97_1 : ∀ e ∈ zm_c97_1, zm_okq 97 e.2 := List.forall_mem_cons.mpr ⟨trivial, List.forall_mem_cons.mpr ⟨⟨_, _, _, rfl, by decide, zm_f5.1, zm_f5.2.1, zm_f5.2.2, Or.inl ⟨_, zw_732, Or.inl rfl⟩⟩, List.forall_mem_cons.mpr ⟨trivial, List.forall_mem_cons.mpr ⟨trivial, List.forall_mem_cons.mpr ⟨trivial, List.forall_mem_cons.mpr ⟨trivial, fun _ h => absurd h List.not_mem_nil⟩⟩⟩⟩⟩⟩
set_option maxRecDepth 100000 in
theorem zq_97_2 : ∀ e ∈ zm_c97_2, zm_okq 97 e.2 := List.forall_mem_cons.mpr ⟨trivial, fun _ h => absurd h List.not_mem_nil⟩
set_option maxRecDepth 100000 in
theorem zq_98_0 : ∀ e ∈ zm_c98_0, zm_okq 98 e.2 := List.forall_mem_cons.mpr ⟨trivial, List.forall_mem_cons.mpr ⟨trivial, List.forall_mem_cons.mpr ⟨trivial, List.forall_mem_cons.mpr ⟨trivial, List.forall_mem_cons.mpr ⟨trivial, List.forall_mem_cons.mpr ⟨trivial, fun _ h => absurd h List.not_mem_nil⟩⟩⟩⟩⟩⟩
set_option maxRecDepth 100000 in
theorem zq_98_1 : ∀ e ∈ zm_c98_1, zm_okq 98 e.2 := List.forall_mem_cons.mpr ⟨trivial, List.forall_mem_cons.mpr ⟨trivial, List.forall_mem_cons.mpr ⟨trivial, List.forall_mem_cons.mpr ⟨trivial, List.forall_mem_cons.mpr ⟨trivial, List.forall_mem_cons.mpr ⟨trivial, fun _ h => absurd h List.not_mem_nil⟩⟩⟩⟩⟩⟩
set_option maxRecDepth 100000 in
theorem zq_98_2 : ∀ e ∈ zm_c98_2, zm_okq 98 e.2 := List.forall_mem_cons.mpr ⟨trivial, List.forall_mem_cons.mpr ⟨trivial, List.forall_mem_cons.mpr ⟨trivial, List.forall_mem_cons.mpr ⟨trivial, List.forall_mem_cons.mpr ⟨trivial, List.forall_mem_cons.mpr ⟨trivial, fun _ h => absurd h List.not_mem_nil⟩⟩⟩⟩⟩⟩
set_option maxRecDepth 100000 in
theorem zq_98_3 : ∀ e ∈ zm_c98_3, zm_okq 98 e.2 := List.forall_mem_cons.mpr ⟨trivial, List.forall_mem_cons.mpr ⟨trivial, List.forall_mem_cons.mpr ⟨trivial, List.forall_mem_cons.mpr ⟨trivial, List.forall_mem_cons.mpr ⟨trivial, List.forall_mem_cons.mpr ⟨trivial, fun _ h => absurd h List.not_mem_nil⟩⟩⟩⟩⟩⟩
set_option maxRecDepth 100000 in
theorem zq_98_4 : ∀ e ∈ zm_c98_4, zm_okq 98 e.2 := List.forall_mem_cons.mpr ⟨trivial, List.forall_mem_cons.mpr ⟨trivial, List.forall_mem_cons.mpr ⟨trivial, List.forall_mem_cons.mpr ⟨trivial, List.forall_mem_cons.mpr ⟨trivial, List.forall_mem_cons.mpr ⟨trivial, fun _ h => absurd h List.not_mem_nil⟩⟩⟩⟩⟩⟩
set_option maxRecDepth 100000 in
theorem zq_98_5 : ∀ e ∈ zm_c98_5, zm_okq 98 e.2 := List.forall_mem_cons.mpr ⟨trivial, List.forall_mem_cons.mpr ⟨trivial, List.forall_mem_cons.mpr ⟨trivial, List.forall_mem_cons.mpr ⟨trivial, List.forall_mem_cons.mpr ⟨trivial, List.forall_mem_cons.mpr ⟨trivial, fun _ h => absurd h List.not_mem_nil⟩⟩⟩⟩⟩⟩
set_option maxRecDepth 100000 in
theorem zq_98_6 : ∀ e ∈ zm_c98_6, zm_okq 98 e.2 := List.forall_mem_cons.mpr ⟨trivial, List.forall_mem_cons.mpr ⟨trivial, List.forall_mem_cons.mpr ⟨trivial, List.forall_mem_cons.mpr ⟨trivial, List.forall_mem_cons.mpr ⟨trivial, List.forall_mem_cons.mpr ⟨trivial, fun _ h => absurd h List.not_mem_nil⟩⟩⟩⟩⟩⟩
set_option maxRecDepth 100000 in
theorem zq_98_7 : ∀ e ∈ zm_c98_7, zm_okq 98 e.2 := List.forall_mem_cons.mpr ⟨trivial, List.forall_mem_cons.mpr ⟨trivial, List.forall_mem_cons.mpr ⟨trivial, List.forall_mem_cons.mpr ⟨trivial, List.forall_mem_cons.mpr ⟨trivial, List.forall_mem_cons.mpr ⟨trivial, fun _ h => absurd h List.not_mem_nil⟩⟩⟩⟩⟩⟩
set_option maxRecDepth 100000 in
theorem zq_99_0 : ∀ e ∈ zm_c99_0, zm_okq 99 e.2 := List.forall_mem_cons.mpr ⟨trivial, List.forall_mem_cons.mpr ⟨⟨_, _, _, rfl, by decide, zm_f5.1, zm_f5.2.1, zm_f5.2.2, Or.inl ⟨_, zw_727, Or.inl rfl⟩⟩, List.forall_mem_cons.mpr ⟨trivial, List.forall_mem_cons.mpr ⟨trivial, List.forall_mem_cons.mpr ⟨trivial, List.forall_mem_cons.mpr ⟨trivial, fun _ h => absurd h List.not_mem_nil⟩⟩⟩⟩⟩⟩
set_option maxRecDepth 100000 in
theorem zq_99_1 : ∀ e ∈ zm_c99_1, zm_okq 99 e.2 := List.forall_mem_cons.mpr ⟨trivial, List.forall_mem_cons.mpr ⟨⟨⟨_, _, _, rfl, by decide, zm_f5.1, zm_f5.2.1, zm_f5.2.2, Or.inl ⟨_, zw_732, Or.inl rfl⟩⟩, zm_okw_n rfl rfl⟩, List.forall_mem_cons.mpr ⟨trivial, List.forall_mem_cons.mpr ⟨trivial, List.forall_mem_cons.mpr ⟨⟨_, _, _, rfl, by decide, zm_f5.1, zm_f5.2.1, zm_f5.2.2, Or.inl ⟨_, zw_725, Or.inl rfl⟩⟩, List.forall_mem_cons.mpr ⟨trivial, fun _ h => absurd h List.not_mem_nil⟩⟩⟩⟩⟩⟩
set_option maxRecDepth 100000 in
theorem zq_99_2 : ∀ e ∈ zm_c99_2, zm_okq 99 e.2 := List.forall_mem_cons.mpr ⟨trivial, List.forall_mem_cons.mpr ⟨trivial, List.forall_mem_cons.mpr ⟨trivial, List.forall_mem_cons.mpr ⟨trivial, List.forall_mem_cons.mpr ⟨trivial, List.forall_mem_cons.mpr ⟨trivial, fun _ h => absurd h List.not_mem_nil⟩⟩⟩⟩⟩⟩
set_option maxRecDepth 100000 in
theorem zq_99_3 : ∀ e ∈ zm_c99_3, zm_okq 99 e.2 := List.forall_mem_cons.mpr ⟨trivial, List.forall_mem_cons.mpr ⟨trivial, List.forall_mem_cons.mpr ⟨trivial, List.forall_mem_cons.mpr ⟨trivial, List.forall_mem_cons.mpr ⟨trivial, List.forall_mem_cons.mpr ⟨trivial, fun _ h => absurd h List.not_mem_nil⟩⟩⟩⟩⟩⟩
set_option maxRecDepth 100000 in
theorem zq_99_4 : ∀ e ∈ zm_c99_4, zm_okq 99 e.2 := List.forall_mem_cons.mpr ⟨trivial, List.forall_mem_cons.mpr ⟨trivial, fun _ h => absurd h List.not_mem_nil⟩⟩
set_option maxRecDepth 100000 in
theorem zq_100_0 : ∀ e ∈ zm_c100_0, zm_okq 100 e.2 := List.forall_mem_cons.mpr ⟨trivial, List.forall_mem_cons.mpr ⟨trivial, List.forall_mem_cons.mpr ⟨⟨_, _, _, rfl, by decide, zm_f5.1, zm_f5.2.1, zm_f5.2.2, Or.inl ⟨_, zw_732, Or.inl rfl⟩⟩, List.forall_mem_cons.mpr ⟨trivial, List.forall_mem_cons.mpr ⟨trivial, List.forall_mem_cons.mpr ⟨trivial, fun _ h => absurd h List.not_mem_nil⟩⟩⟩⟩⟩⟩
set_option maxRecDepth 100000 in
theorem zq_100_1 : ∀ e ∈ zm_c100_1, zm_okq 100 e.2 := List.forall_mem_cons.mpr ⟨trivial, List.forall_mem_cons.mpr ⟨⟨⟨_, _, _, rfl, by decide, zm_f5.1, zm_f5.2.1, zm_f5.2.2, Or.inl ⟨_, zw_763, Or.inl rfl⟩⟩, zm_okw_n rfl rfl⟩, List.forall_mem_cons.mpr ⟨trivial, List.forall_mem_cons.mpr ⟨⟨_, _, _, rfl, by decide, zm_f5.1, zm_f5.2.1, zm_f5.2.2, Or.inl ⟨_, zw_763, Or.inl rfl⟩⟩, List.forall_mem_cons.mpr ⟨trivial, List.forall_mem_cons.mpr ⟨trivial, fun _ h => absurd h List.not_mem_nil⟩⟩⟩⟩⟩⟩
set_option maxRecDepth 100000 in
theorem zq_100_2 : ∀ e ∈ zm_c100_2, zm_okq 100 e.2 := List.forall_mem_cons.mpr ⟨trivial, List.forall_mem_cons.mpr ⟨trivial, List.forall_mem_cons.mpr ⟨trivial, List.forall_mem_cons.mpr ⟨⟨_, _, _, rfl, by decide, zm_f5.1, zm_f5.2.1, zm_f5.2.2, Or.inl ⟨_, zw_757, Or.inl rfl⟩⟩, List.forall_mem_cons.mpr ⟨⟨⟨_, _, _, rfl, by decide, zm_f5.1, zm_f5.2.1, zm_f5.2.2, Or.inl ⟨_, zw_760, Or.inl rfl⟩⟩, zm_okw_n rfl rfl⟩, List.forall_mem_cons.mpr ⟨trivial, fun _ h => absurd h List.not_mem_nil⟩⟩⟩⟩⟩⟩
set_option maxRecDepth 100000 in
theorem zq_100_3 : ∀ e ∈ zm_c100_3, zm_okq 100 e.2 := List.forall_mem_cons.mpr ⟨trivial, List.forall_mem_cons.mpr ⟨⟨_, _, _, rfl, by decide, zm_f5.1, zm_f5.2.1, zm_f5.2.2, Or.inl ⟨_, zw_758, Or.inl rfl⟩⟩, List.forall_mem_cons.mpr ⟨⟨⟨_, _, _, rfl, by decide, zm_f5.1, zm_f5.2.1, zm_f5.2.2, Or.inl ⟨_, zw_761, Or.inl rfl⟩⟩, zm_okw_n rfl rfl⟩, List.forall_mem_cons.mpr ⟨trivial, List.forall_mem_cons.mpr ⟨trivial, List.forall_mem_cons.mpr ⟨⟨_, _, _, rfl, by decide, zm_f5.1, zm_f5.2.1, zm_f5.2.2, Or.inl ⟨_, zw_759, Or.inl rfl⟩⟩, fun _ h => absurd h List.not_mem_nil⟩⟩⟩⟩⟩⟩
set_option maxRecDepth 100000 in
theorem zq_100_4 : ∀ e ∈ zm_c100_4, zm_okq 100 e.2 := List.forall_mem_cons.mpr ⟨⟨⟨_, _, _, rfl, by decide, zm_f5.1, zm_f5.2.1, zm_f5.2.2, Or.inl ⟨_, zw_762, Or.inl rfl⟩⟩, zm_okw_n rfl rfl⟩, List.forall_mem_cons.mpr ⟨trivial, List.forall_mem_cons.mpr ⟨⟨_, _, _, rfl, by decide, zm_f5.1, zm_f5.2.1, zm_f5.2.2, Or.inl ⟨_, zw_760, Or.inl rfl⟩⟩, List.forall_mem_cons.mpr ⟨trivial, fun _ h => absurd h List.not_mem_nil⟩⟩⟩⟩
set_option maxRecDepth 100000 in
theorem zq_101_0 : ∀ e ∈ zm_c101_0, zm_okq 101 e.2 := List.forall_mem_cons.mpr ⟨trivial, List.forall_mem_cons.mpr ⟨trivial, List.forall_mem_cons.mpr ⟨⟨_, _, _, rfl, by decide, zm_f5.1, zm_f5.2.1, zm_f5.2.2, Or.inl ⟨_, zw_763, Or.inl rfl⟩⟩, List.forall_mem_cons.mpr ⟨trivial, List.forall_mem_cons.mpr ⟨trivial, List.forall_mem_cons.mpr ⟨trivial, fun _ h => absurd h List.not_mem_nil⟩⟩⟩⟩⟩⟩
set_option maxRecDepth 100000 in
theorem zq_101_1 : ∀ e ∈ zm_c101_1, zm_okq 101 e.2 := List.forall_mem_cons.mpr ⟨trivial, List.forall_mem_cons.mpr ⟨⟨_, _, _, rfl, by decide, zm_f5.1, zm_f5.2.1, zm_f5.2.2, Or.inl ⟨_, zw_760, Or.inl rfl⟩⟩, List.forall_mem_cons.mpr ⟨trivial, List.forall_mem_cons.mpr ⟨trivial, List.forall_mem_cons.mpr ⟨trivial, List.forall_mem_cons.mpr ⟨trivial, fun _ h => absurd h List.not_mem_nil⟩⟩⟩⟩⟩⟩
set_option maxRecDepth 100000 in
theorem zq_101_2 : ∀ e ∈ zm_c101_2, zm_okq 101 e.2 := List.forall_mem_cons.mpr ⟨⟨⟨_, _, _, rfl, by decide, zm_f5.1, zm_f5.2.1, zm_f5.2.2, Or.inl ⟨_, zw_732, Or.inl rfl⟩⟩, zm_okw_n rfl rfl⟩, List.forall_mem_cons.mpr ⟨trivial, List.forall_mem_cons.mpr ⟨⟨_, _, _, rfl, by decide, zm_f5.1, zm_f5.2.1, zm_f5.2.2, Or.inl ⟨_, zw_732, Or.inl rfl⟩⟩, List.forall_mem_cons.mpr ⟨trivial, List.forall_mem_cons.mpr ⟨trivial, List.forall_mem_cons.mpr ⟨trivial, fun _ h => absurd h List.not_mem_nil⟩⟩⟩⟩⟩⟩
set_option maxRecDepth 100000 in
theorem zq_101_3 : ∀ e ∈ zm_c101_3, zm_okq 101 e.2 := List.forall_mem_cons.mpr ⟨trivial, List.forall_mem_cons.mpr ⟨⟨_, _, _, rfl, by decide, zm_f5.1, zm_f5.2.1, zm_f5.2.2, Or.inl ⟨_, zw_761, Or.inl rfl⟩⟩, List.forall_mem_cons.mpr ⟨trivial, fun _ h => absurd h List.not_mem_nil⟩⟩⟩
set_option maxRecDepth 100000 in
theorem zq_102_0 : ∀ e ∈ zm_c102_0, zm_okq 102 e.2 := List.forall_mem_cons.mpr ⟨trivial, List.forall_mem_cons.mpr ⟨trivial, List.forall_mem_cons.mpr ⟨trivial, List.forall_mem_cons.mpr ⟨trivial, List.forall_mem_cons.mpr ⟨trivial, List.forall_mem_cons.mpr ⟨⟨_, _, _, rfl, by decide, zm_f5.1, zm_f5.2.1, zm_f5.2.2, Or.inl ⟨_, zw_758, Or.inl rfl⟩⟩, fun _ h => absurd h List.not_mem_nil⟩⟩⟩⟩⟩⟩
set_option maxRecDepth 100000 in
theorem zq_102_1 : ∀ e ∈ zm_c102_1, zm_okq 102 e.2 := List.forall_mem_cons.mpr ⟨trivial, List.forall_mem_cons.mpr ⟨trivial, List.forall_mem_cons.mpr ⟨trivial, fun _ h => absurd h List.not_mem_nil⟩⟩⟩
set_option maxRecDepth 100000 in
theorem zq_103_0 : ∀ e ∈ zm_c103_0, zm_okq 103 e.2 := List.forall_mem_cons.mpr ⟨trivial, List.forall_mem_cons.mpr ⟨trivial, List.forall_mem_cons.mpr ⟨⟨_, _, _, rfl, by decide, zm_f5.1, zm_f5.2.1, zm_f5.2.2, Or.inl ⟨_, zw_763, Or.inl rfl⟩⟩, List.forall_mem_cons.mpr ⟨trivial, List.forall_mem_cons.mpr ⟨trivial, List.forall_mem_cons.mpr ⟨⟨_, _, _, rfl, by decide, zm_f5.1, zm_f5.2.1, zm_f5.2.2, Or.inl ⟨_, zw_760, Or.inl rfl⟩⟩, fun _ h => absurd h List.not_mem_nil⟩⟩⟩⟩⟩⟩
set_option maxRecDepth 100000 in
theorem zq_103_1 : ∀ e ∈ zm_c103_1, zm_okq 103 e.2 := List.forall_mem_cons.mpr ⟨trivial, List.forall_mem_cons.mpr ⟨trivial, List.forall_mem_cons.mpr ⟨trivial, List.forall_mem_cons.mpr ⟨trivial, List.forall_mem_cons.mpr ⟨trivial, List.forall_mem_cons.mpr ⟨⟨_, _, _, rfl, by decide, zm_f5.1, zm_f5.2.1, zm_f5.2.2, Or.inl ⟨_, zw_760, Or.inl rfl⟩⟩, fun _ h => absurd h List.not_mem_nil⟩⟩⟩⟩⟩⟩
set_option maxRecDepth 100000 in
theorem zq_103_2 : ∀ e ∈ zm_c103_2, zm_okq 103 e.2 := List.forall_mem_cons.mpr ⟨trivial, List.forall_mem_cons.mpr ⟨trivial, List.forall_mem_cons.mpr ⟨trivial, List.forall_mem_cons.mpr ⟨trivial, List.forall_mem_cons.mpr ⟨trivial, List.forall_mem_cons.mpr ⟨⟨⟨_, _, _, rfl, by decide, zm_f5.1, zm_f5.2.1, zm_f5.2.2, Or.inl ⟨_, zw_732, Or.inl rfl⟩⟩, zm_okw_n rfl rfl⟩, fun _ h => absurd h List.not_mem_nil⟩⟩⟩⟩⟩⟩
set_option maxRecDepth 100000 in
theorem zq_103_3 : ∀ e ∈ zm_c103_3, zm_okq 103 e.2 := List.forall_mem_cons.mpr ⟨trivial, List.forall_mem_cons.mpr ⟨⟨_, _, _, rfl, by decide, zm_f5.1, zm_f5.2.1, zm_f5.2.2, Or.inl ⟨_, zw_732, Or.inl rfl⟩⟩, List.forall_mem_cons.mpr ⟨trivial, List.forall_mem_cons.mpr ⟨trivial, List.forall_mem_cons.mpr ⟨trivial, List.forall_mem_cons.mpr ⟨trivial, fun _ h => absurd h List.not_mem_nil⟩⟩⟩⟩⟩⟩
set_option maxRecDepth 100000 in
theorem zq_103_4 : ∀ e ∈ zm_c103_4, zm_okq 103 e.2 := List.forall_mem_cons.mpr ⟨⟨_, _, _, rfl, by decide, zm_f5.1, zm_f5.2.1, zm_f5.2.2, Or.inl ⟨_, zw_761, Or.inl rfl⟩⟩, List.forall_mem_cons.mpr ⟨trivial, List.forall_mem_cons.mpr ⟨trivial, List.forall_mem_cons.mpr ⟨⟨_, _, _, rfl, by decide, zm_f5.1, zm_f5.2.1, zm_f5.2.2, Or.inl ⟨_, zw_762, Or.inl rfl⟩⟩, List.forall_mem_cons.mpr ⟨trivial, List.forall_mem_cons.mpr ⟨trivial, fun _ h => absurd h List.not_mem_nil⟩⟩⟩⟩⟩⟩
set_option maxRecDepth 100000 in
theorem zq_103_5 : ∀ e ∈ zm_c103_5, zm_okq 103 e.2 := List.forall_mem_cons.mpr ⟨⟨_, _, _, rfl, by decide, zm_f5.1, zm_f5.2.1, zm_f5.2.2, Or.inl ⟨_, zw_735, Or.inl rfl⟩⟩, List.forall_mem_cons.mpr ⟨trivial, List.forall_mem_cons.mpr ⟨trivial, List.forall_mem_cons.mpr ⟨trivial, List.forall_mem_cons.mpr ⟨trivial, List.forall_mem_cons.mpr ⟨trivial, fun _ h => absurd h List.not_mem_nil⟩⟩⟩⟩⟩⟩
set_option maxRecDepth 100000 in
theorem zq_103_6 : ∀ e ∈ zm_c103_6, zm_okq 103 e.2 := List.forall_mem_cons.mpr ⟨trivial, List.forall_mem_cons.mpr ⟨⟨_, _, _, rfl, by decide, zm_f5.1, zm_f5.2.1, zm_f5.2.2, Or.inl ⟨_, zw_756, Or.inl rfl⟩⟩, List.forall_mem_cons.mpr ⟨trivial, List.forall_mem_cons.mpr ⟨trivial, List.forall_mem_cons.mpr ⟨⟨⟨_, _, _, rfl, by decide, zm_f5.1, zm_f5.2.1, zm_f5.2.2, Or.inl ⟨_, zw_756, Or.inl rfl⟩⟩, zm_okw_n rfl rfl⟩, List.forall_mem_cons.mpr ⟨trivial, fun _ h => absurd h List.not_mem_nil⟩⟩⟩⟩⟩⟩
set_option maxRecDepth 100000 in
theorem zq_103_7 : ∀ e ∈ zm_c103_7, zm_okq 103 e.2 := List.forall_mem_cons.mpr ⟨trivial, List.forall_mem_cons.mpr ⟨trivial, List.forall_mem_cons.mpr ⟨⟨_, _, _, rfl, by decide, zm_f5.1, zm_f5.2.1, zm_f5.2.2, Or.inl ⟨_, zw_755, Or.inl rfl⟩⟩, List.forall_mem_cons.mpr ⟨trivial, List.forall_mem_cons.mpr ⟨trivial, List.forall_mem_cons.mpr ⟨⟨⟨_, _, _, rfl, by decide, zm_f5.1, zm_f5.2.1, zm_f5.2.2, Or.inl ⟨_, zw_755, Or.inl rfl⟩⟩, zm_okw_n rfl rfl⟩, fun _ h => absurd h List.not_mem_nil⟩⟩⟩⟩⟩⟩
set_option maxRecDepth 100000 in
theorem zq_103_8 : ∀ e ∈ zm_c103_8, zm_okq 103 e.2 := List.forall_mem_cons.mpr ⟨trivial, List.forall_mem_cons.mpr ⟨⟨_, _, _, rfl, by decide, zm_f5.1, zm_f5.2.1, zm_f5.2.2, Or.inl ⟨_, zw_735, Or.inl rfl⟩⟩, List.forall_mem_cons.mpr ⟨trivial, List.forall_mem_cons.mpr ⟨trivial, List.forall_mem_cons.mpr ⟨trivial, List.forall_mem_cons.mpr ⟨trivial, fun _ h => absurd h List.not_mem_nil⟩⟩⟩⟩⟩⟩
set_option maxRecDepth 100000 in
theorem zq_103_9 : ∀ e ∈ zm_c103_9, zm_okq 103 e.2 := List.forall_mem_cons.mpr ⟨trivial, List.forall_mem_cons.mpr ⟨⟨_, _, _, rfl, by decide, zm_f5.1, zm_f5.2.1, zm_f5.2.2, Or.inl ⟨_, zw_733, Or.inl rfl⟩⟩, List.forall_mem_cons.mpr ⟨trivial, List.forall_mem_cons.mpr ⟨trivial, List.forall_mem_cons.mpr ⟨trivial, List.forall_mem_cons.mpr ⟨⟨_, _, _, rfl, by decide, zm_f5.1, zm_f5.2.1, zm_f5.2.2, Or.inl ⟨_, zw_734, Or.inl rfl⟩⟩, fun _ h => absurd h List.not_mem_nil⟩⟩⟩⟩⟩⟩
set_option maxRecDepth 100000 in
theorem zq_103_10 : ∀ e ∈ zm_c103_10, zm_okq 103 e.2 := List.forall_mem_cons.mpr ⟨trivial, List.forall_mem_cons.mpr ⟨trivial, List.forall_mem_cons.mpr ⟨trivial, List.forall_mem_cons.mpr ⟨trivial, List.forall_mem_cons.mpr ⟨⟨_, _, _, rfl, by decide, zm_f5.1, zm_f5.2.1, zm_f5.2.2, Or.inl ⟨_, zw_735, Or.inl rfl⟩⟩, List.forall_mem_cons.mpr ⟨trivial, fun _ h => absurd h List.not_mem_nil⟩⟩⟩⟩⟩⟩
set_option maxRecDepth 100000 in
theorem zq_103_11 : ∀ e ∈ zm_c103_11, zm_okq 103 e.2 := List.forall_mem_cons.mpr ⟨trivial, List.forall_mem_cons.mpr ⟨trivial, List.forall_mem_cons.mpr ⟨trivial, List.forall_mem_cons.mpr ⟨⟨_, _, _, rfl, by decide, zm_f5.1, zm_f5.2.1, zm_f5.2.2, Or.inl ⟨_, zw_736, Or.inl rfl⟩⟩, List.forall_mem_cons.mpr ⟨trivial, List.forall_mem_cons.mpr ⟨trivial, fun _ h => absurd h List.not_mem_nil⟩⟩⟩⟩⟩⟩
set_option maxRecDepth 100000 in
theorem zq_103_12 : ∀ e ∈ zm_c103_12, zm_okq 103 e.2 := List.forall_mem_cons.mpr ⟨⟨_, _, _, rfl, by decide, zm_f5.1, zm_f5.2.1, zm_f5.2.2, Or.inl ⟨_, zw_757, Or.inl rfl⟩⟩, List.forall_mem_cons.mpr ⟨trivial, List.forall_mem_cons.mpr ⟨trivial, List.forall_mem_cons.mpr ⟨⟨_, _, _, rfl, by decide, zm_f5.1, zm_f5.2.1, zm_f5.2.2, Or.inl ⟨_, zw_737, Or.inl rfl⟩⟩, List.forall_mem_cons.mpr ⟨trivial, List.forall_mem_cons.mpr ⟨trivial, fun _ h => absurd h List.not_mem_nil⟩⟩⟩⟩⟩⟩
set_option maxRecDepth 100000 in
theorem zq_103_13 : ∀ e ∈ zm_c103_13, zm_okq 103 e.2 := List.forall_mem_cons.mpr ⟨⟨_, _, _, rfl, by decide, zm_f5.1, zm_f5.2.1, zm_f5.2.2, Or.inl ⟨_, zw_758, Or.inl rfl⟩⟩, List.forall_mem_cons.mpr ⟨trivial, List.forall_mem_cons.mpr ⟨trivial, List.forall_mem_cons.mpr ⟨⟨_, _, _, rfl, by decide, zm_f5.1, zm_f5.2.1, zm_f5.2.2, Or.inl ⟨_, zw_738, Or.inl rfl⟩⟩, List.forall_mem_cons.mpr ⟨trivial, List.forall_mem_cons.mpr ⟨trivial, fun _ h => absurd h List.not_mem_nil⟩⟩⟩⟩⟩⟩
set_option maxRecDepth 100000 in
theorem zq_103_14 : ∀ e ∈ zm_c103_14, zm_okq 103 e.2 := List.forall_mem_cons.mpr ⟨⟨_, _, _, rfl, by decide, zm_f5.1, zm_f5.2.1, zm_f5.2.2, Or.inl ⟨_, zw_759, Or.inl rfl⟩⟩, List.forall_mem_cons.mpr ⟨trivial, List.forall_mem_cons.mpr ⟨trivial, List.forall_mem_cons.mpr ⟨trivial, List.forall_mem_cons.mpr ⟨⟨_, _, _, rfl, by decide, zm_f5.1, zm_f5.2.1, zm_f5.2.2, Or.inl ⟨_, zw_736, Or.inl rfl⟩⟩, List.forall_mem_cons.mpr ⟨trivial, fun _ h => absurd h List.not_mem_nil⟩⟩⟩⟩⟩⟩
set_option maxRecDepth 100000 in
theorem zq_103_15 : ∀ e ∈ zm_c103_15, zm_okq 103 e.2 := List.forall_mem_cons.mpr ⟨trivial, List.forall_mem_cons.mpr ⟨⟨⟨_, _, _, rfl, by decide, zm_f5.1, zm_f5.2.1, zm_f5.2.2, Or.inl ⟨_, zw_757, Or.inl rfl⟩⟩, zm_okw_n rfl rfl⟩, List.forall_mem_cons.mpr ⟨trivial, List.forall_mem_cons.mpr ⟨trivial, List.forall_mem_cons.mpr ⟨⟨_, _, _, rfl, by decide, zm_f5.1, zm_f5.2.1, zm_f5.2.2, Or.inl ⟨_, zw_737, Or.inl rfl⟩⟩, List.forall_mem_cons.mpr ⟨trivial, fun _ h => absurd h List.not_mem_nil⟩⟩⟩⟩⟩⟩
set_option maxRecDepth 100000 in
theorem zq_103_16 : ∀ e ∈ zm_c103_16, zm_okq 103 e.2 := List.forall_mem_cons.mpr ⟨trivial, List.forall_mem_cons.mpr ⟨⟨⟨_, _, _, rfl, by decide, zm_f5.1, zm_f5.2.1, zm_f5.2.2, Or.inl ⟨_, zw_758, Or.inl rfl⟩⟩, zm_okw_n rfl rfl⟩, List.forall_mem_cons.mpr ⟨trivial, List.forall_mem_cons.mpr ⟨trivial, List.forall_mem_cons.mpr ⟨⟨_, _, _, rfl, by decide, zm_f5.1, zm_f5.2.1, zm_f5.2.2, Or.inl ⟨_, zw_738, Or.inl rfl⟩⟩, List.forall_mem_cons.mpr ⟨trivial, fun _ h => absurd h List.not_mem_nil⟩⟩⟩⟩⟩⟩
set_option maxRecDepth 100000 in
theorem zq_103_17 : ∀ e ∈ zm_c103_17, zm_okq 103 e.2 := List.forall_mem_cons.mpr ⟨trivial, List.forall_mem_cons.mpr ⟨⟨⟨_, _, _, rfl, by decide, zm_f5.1, zm_f5.2.1, zm_f5.2.2, Or.inl ⟨_, zw_759, Or.inl rfl⟩⟩, zm_okw_n rfl rfl⟩, List.forall_mem_cons.mpr ⟨trivial, List.forall_mem_cons.mpr ⟨⟨_, _, _, rfl, by decide, zm_f5.1, zm_f5.2.1, zm_f5.2.2, Or.inl ⟨_, zw_732, Or.inl rfl⟩⟩, List.forall_mem_cons.mpr ⟨trivial, List.forall_mem_cons.mpr ⟨trivial, fun _ h => absurd h List.not_mem_nil⟩⟩⟩⟩⟩⟩
set_option maxRecDepth 100000 in
theorem zq_103_18 : ∀ e ∈ zm_c103_18, zm_okq 103 e.2 := List.forall_mem_cons.mpr ⟨trivial, List.forall_mem_cons.mpr ⟨trivial, List.forall_mem_cons.mpr ⟨⟨_, _, _, rfl, by decide, zm_f5.1, zm_f5.2.1, zm_f5.2.2, Or.inl ⟨_, zw_757, Or.inl rfl⟩⟩, List.forall_mem_cons.mpr ⟨trivial, List.forall_mem_cons.mpr ⟨trivial, List.forall_mem_cons.mpr ⟨trivial, fun _ h => absurd h List.not_mem_nil⟩⟩⟩⟩⟩⟩
set_option maxRecDepth 100000 in
theorem zq_103_19 : ∀ e ∈ zm_c103_19, zm_okq 103 e.2 := List.forall_mem_cons.mpr ⟨⟨⟨_, _, _, rfl, by decide, zm_f5.1, zm_f5.2.1, zm_f5.2.2, Or.inl ⟨_, zw_732, Or.inl rfl⟩⟩, zm_okw_n rfl rfl⟩, List.forall_mem_cons.mpr ⟨trivial, List.forall_mem_cons.mpr ⟨⟨_, _, _, rfl, by decide, zm_f5.1, zm_f5.2.1, zm_f5.2.2, Or.inl ⟨_, zw_732, Or.inl rfl⟩⟩, List.forall_mem_cons.mpr ⟨trivial, List.forall_mem_cons.mpr ⟨trivial, List.forall_mem_cons.mpr ⟨trivial, fun _ h => absurd h List.not_mem_nil⟩⟩⟩⟩⟩⟩
set_option maxRecDepth 100000 in
theorem zq_103_20 : ∀ e ∈ zm_c103_20, zm_okq 103 e.2 := List.forall_mem_cons.mpr ⟨trivial, List.forall_mem_cons.mpr ⟨trivial, List.forall_mem_cons.mpr ⟨⟨_, _, _, rfl, by decide, zm_f5.1, zm_f5.2.1, zm_f5.2.2, Or.inl ⟨_, zw_732, Or.inl rfl⟩⟩, List.forall_mem_cons.mpr ⟨trivial, List.forall_mem_cons.mpr ⟨trivial, List.forall_mem_cons.mpr ⟨⟨⟨_, _, _, rfl, by decide, zm_f5.1, zm_f5.2.1, zm_f5.2.2, Or.inl ⟨_, zw_732, Or.inl rfl⟩⟩, zm_okw_n rfl rfl⟩, fun _ h => absurd h List.not_mem_nil⟩⟩⟩⟩⟩⟩
set_option maxRecDepth 100000 in
theorem zq_103_21 : ∀ e ∈ zm_c103_21, zm_okq 103 e.2 := List.forall_mem_cons.mpr ⟨trivial, List.forall_mem_cons.mpr ⟨trivial, List.forall_mem_cons.mpr ⟨⟨⟨_, _, _, rfl, by decide, zm_f5.1, zm_f5.2.1, zm_f5.2.2, Or.inl ⟨_, zw_763, Or.inl rfl⟩⟩, zm_okw_n rfl rfl⟩, List.forall_mem_cons.mpr ⟨trivial, List.forall_mem_cons.mpr ⟨trivial, fun _ h => absurd h List.not_mem_nil⟩⟩⟩⟩⟩
set_option maxRecDepth 100000 in
theorem zq_104_0 : ∀ e ∈ zm_c104_0, zm_okq 104 e.2 := List.forall_mem_cons.mpr ⟨trivial, List.forall_mem_cons.mpr ⟨trivial, List.forall_mem_cons.mpr ⟨trivial, List.forall_mem_cons.mpr ⟨trivial, List.forall_mem_cons.mpr ⟨trivial, List.forall_mem_cons.mpr ⟨trivial, fun _ h => absurd h List.not_mem_nil⟩⟩⟩⟩⟩⟩
set_option maxRecDepth 100000 in
theorem zq_104_1 : ∀ e ∈ zm_c104_1, zm_okq 104 e.2 := List.forall_mem_cons.mpr ⟨trivial, List.forall_mem_cons.mpr ⟨trivial, List.forall_mem_cons.mpr ⟨trivial, fun _ h => absurd h List.not_mem_nil⟩⟩⟩
set_option maxRecDepth 100000 in
theorem zq_105_0 : ∀ e ∈ zm_c105_0, zm_okq 105 e.2 := List.forall_mem_cons.mpr ⟨trivial, List.forall_mem_cons.mpr ⟨trivial, List.forall_mem_cons.mpr ⟨trivial, List.forall_mem_cons.mpr ⟨trivial, List.forall_mem_cons.mpr ⟨trivial, List.forall_mem_cons.mpr ⟨trivial, fun _ h => absurd h List.not_mem_nil⟩⟩⟩⟩⟩⟩
set_option maxRecDepth 100000 in
theorem zq_105_1 : ∀ e ∈ zm_c105_1, zm_okq 105 e.2 := List.forall_mem_cons.mpr ⟨trivial, List.forall_mem_cons.mpr ⟨trivial, List.forall_mem_cons.mpr ⟨trivial, List.forall_mem_cons.mpr ⟨⟨_, _, _, rfl, by decide, zm_f5.1, zm_f5.2.1, zm_f5.2.2, Or.inl ⟨_, zw_727, Or.inl rfl⟩⟩, List.forall_mem_cons.mpr ⟨trivial, List.forall_mem_cons.mpr ⟨trivial, fun _ h => absurd h List.not_mem_nil⟩⟩⟩⟩⟩⟩
set_option maxRecDepth 100000 in
theorem zq_105_2 : ∀ e ∈ zm_c105_2, zm_okq 105 e.2 := List.forall_mem_cons.mpr ⟨trivial, List.forall_mem_cons.mpr ⟨trivial, List.forall_mem_cons.mpr ⟨trivial, List.forall_mem_cons.mpr ⟨⟨⟨_, _, _, rfl, by decide, zm_f5.1, zm_f5.2.1, zm_f5.2.2, Or.inl ⟨_, zw_732, Or.inl rfl⟩⟩, zm_okw_n rfl rfl⟩, List.forall_mem_cons.mpr ⟨trivial, List.forall_mem_cons.mpr ⟨⟨_, _, _, rfl, by decide, zm_f5.1, zm_f5.2.1, zm_f5.2.2, Or.inl ⟨_, zw_727, Or.inl rfl⟩⟩, fun _ h => absurd h List.not_mem_nil⟩⟩⟩⟩⟩⟩
set_option maxRecDepth 100000 in
theorem zq_105_3 : ∀ e ∈ zm_c105_3, zm_okq 105 e.2 := List.forall_mem_cons.mpr ⟨trivial, List.forall_mem_cons.mpr ⟨trivial, List.forall_mem_cons.mpr ⟨trivial, List.forall_mem_cons.mpr ⟨trivial, fun _ h => absurd h List.not_mem_nil⟩⟩⟩⟩
set_option maxRecDepth 100000 in
theorem zq_106_0 : ∀ e ∈ zm_c106_0, zm_okq 106 e.2 := List.forall_mem_cons.mpr ⟨trivial, List.forall_mem_cons.mpr ⟨trivial, List.forall_mem_cons.mpr ⟨⟨⟨_, _, _, rfl, by decide, zm_f5.1, zm_f5.2.1, zm_f5.2.2, Or.inl ⟨_, zw_732, Or.inl rfl⟩⟩, zm_okw_n rfl rfl⟩, List.forall_mem_cons.mpr ⟨trivial, List.forall_mem_cons.mpr ⟨trivial, List.forall_mem_cons.mpr ⟨trivial, fun _ h => absurd h List.not_mem_nil⟩⟩⟩⟩⟩⟩
set_option maxRecDepth 100000 in
theorem zq_106_1 : ∀ e ∈ zm_c106_1, zm_okq 106 e.2 := List.forall_mem_cons.mpr ⟨trivial, List.forall_mem_cons.mpr ⟨trivial, List.forall_mem_cons.mpr ⟨trivial, List.forall_mem_cons.mpr ⟨trivial, List.forall_mem_cons.mpr ⟨trivial, List.forall_mem_cons.mpr ⟨⟨_, _, _, rfl, by decide, zm_f5.1, zm_f5.2.1, zm_f5.2.2, Or.inl ⟨_, zw_727, Or.inl rfl⟩⟩, fun _ h => absurd h List.not_mem_nil⟩⟩⟩⟩⟩⟩
set_option maxRecDepth 100000 in
theorem zq_106_2 : ∀ e ∈ zm_c106_2, zm_okq 106 e.2 := List.forall_mem_cons.mpr ⟨trivial, List.forall_mem_cons.mpr ⟨trivial, List.forall_mem_cons.mpr ⟨trivial, List.forall_mem_cons.mpr ⟨trivial, List.forall_mem_cons.mpr ⟨trivial, List.forall_mem_cons.mpr ⟨trivial, fun _ h => absurd h List.not_mem_nil⟩⟩⟩⟩⟩⟩
set_option maxRecDepth 100000 in
theorem zq_106_3 : ∀ e ∈ zm_c106_3, zm_okq 106 e.2 := List.forall_mem_cons.mpr ⟨trivial, List.forall_mem_cons.mpr ⟨trivial, List.forall_mem_cons.mpr ⟨trivial, List.forall_mem_cons.mpr ⟨⟨_, _, _, rfl, by decide, zm_f5.1, zm_f5.2.1, zm_f5.2.2, Or.inl ⟨_, zw_729, Or.inl rfl⟩⟩, List.forall_mem_cons.mpr ⟨trivial, List.forall_mem_cons.mpr ⟨trivial, fun _ h => absurd h List.not_mem_nil⟩⟩⟩⟩⟩⟩
set_option maxRecDepth 100000 in
theorem zq_106_4 : ∀ e ∈ zm_c106_4, zm_okq 106 e.2 := List.forall_mem_cons.mpr ⟨⟨_, _, _, rfl, by decide, zm_f5.1, zm_f5.2.1, zm_f5.2.2, Or.inl ⟨_, zw_728, Or.inl rfl⟩⟩, List.forall_mem_cons.mpr ⟨trivial, List.forall_mem_cons.mpr ⟨trivial, List.forall_mem_cons.mpr ⟨trivial, List.forall_mem_cons.mpr ⟨trivial, List.forall_mem_cons.mpr ⟨⟨_, _, _, rfl, by decide, zm_f5.1, zm_f5.2.1, zm_f5.2.2, Or.inl ⟨_, zw_753, Or.inl rfl⟩⟩, fun _ h => absurd h List.not_mem_nil⟩⟩⟩⟩⟩⟩
set_option maxRecDepth 100000 in
theorem zq_106_5 : ∀ e ∈ zm_c106_5, zm_okq 106 e.2 := List.forall_mem_cons.mpr ⟨trivial, List.forall_mem_cons.mpr ⟨trivial, List.forall_mem_cons.mpr ⟨⟨_, _, _, rfl, by decide, zm_f5.1, zm_f5.2.1, zm_f5.2.2, Or.inl ⟨_, zw_754, Or.inl rfl⟩⟩, List.forall_mem_cons.mpr ⟨trivial, List.forall_mem_cons.mpr ⟨trivial, List.forall_mem_cons.mpr ⟨⟨_, _, _, rfl, by decide, zm_f5.1, zm_f5.2.1, zm_f5.2.2, Or.inl ⟨_, zw_755, Or.inl rfl⟩⟩, fun _ h => absurd h List.not_mem_nil⟩⟩⟩⟩⟩⟩
set_option maxRecDepth 100000 in
theorem zq_106_6 : ∀ e ∈ zm_c106_6, zm_okq 106 e.2 := List.forall_mem_cons.mpr ⟨trivial, List.forall_mem_cons.mpr ⟨trivial, List.forall_mem_cons.mpr ⟨⟨_, _, _, rfl, by decide, zm_f5.1, zm_f5.2.1, zm_f5.2.2, Or.inl ⟨_, zw_756, Or.inl rfl⟩⟩, List.forall_mem_cons.mpr ⟨trivial, List.forall_mem_cons.mpr ⟨trivial, List.forall_mem_cons.mpr ⟨⟨_, _, _, rfl, by decide, zm_f5.1, zm_f5.2.1, zm_f5.2.2, Or.inl ⟨_, zw_752, Or.inl rfl⟩⟩, fun _ h => absurd h List.not_mem_nil⟩⟩⟩⟩⟩⟩
set_option maxRecDepth 100000 in
theorem zq_106_7 : ∀ e ∈ zm_c106_7, zm_okq 106 e.2 := List.forall_mem_cons.mpr ⟨trivial, List.forall_mem_cons.mpr ⟨trivial, List.forall_mem_cons.mpr ⟨trivial, fun _ h => absurd h List.not_mem_nil⟩⟩⟩
set_option maxRecDepth 100000 in
theorem zq_107_0 : ∀ e ∈ zm_c107_0, zm_okq 107 e.2 := List.forall_mem_cons.mpr ⟨trivial, List.forall_mem_cons.mpr ⟨⟨_, _, _, rfl, by decide, zm_f4.1, zm_f4.2.1, zm_f4.2.2, Or.inl ⟨_, zw_117, Or.inl rfl⟩⟩, List.forall_mem_cons.mpr ⟨trivial, fun _ h => absurd h List.not_mem_nil⟩⟩⟩
set_option maxRecDepth 100000 in
theorem zq_108_0 : ∀ e ∈ zm_c108_0, zm_okq 108 e.2 := List.forall_mem_cons.mpr ⟨trivial, List.forall_mem_cons.mpr ⟨trivial, List.forall_mem_cons.mpr ⟨⟨_, _, _, rfl, by decide, zm_f4.1, zm_f4.2.1, zm_f4.2.2, Or.inl ⟨_, zw_117, Or.inl rfl⟩⟩, List.forall_mem_cons.mpr ⟨trivial, List.forall_mem_cons.mpr ⟨trivial, List.forall_mem_cons.mpr ⟨trivial, fun _ h => absurd h List.not_mem_nil⟩⟩⟩⟩⟩⟩
set_option maxRecDepth 100000 in
theorem zq_108_1 : ∀ e ∈ zm_c108_1, zm_okq 108 e.2 := List.forall_mem_cons.mpr ⟨trivial, List.forall_mem_cons.mpr ⟨trivial, List.forall_mem_cons.mpr ⟨trivial, fun _ h => absurd h List.not_mem_nil⟩⟩⟩
set_option maxRecDepth 100000 in
theorem zq_109_0 : ∀ e ∈ zm_c109_0, zm_okq 109 e.2 := List.forall_mem_cons.mpr ⟨trivial, List.forall_mem_cons.mpr ⟨⟨_, _, _, rfl, by decide, zm_f4.1, zm_f4.2.1, zm_f4.2.2, Or.inl ⟨_, zw_116, Or.inl rfl⟩⟩, List.forall_mem_cons.mpr ⟨trivial, List.forall_mem_cons.mpr ⟨trivial, List.forall_mem_cons.mpr ⟨trivial, fun _ h => absurd h List.not_mem_nil⟩⟩⟩⟩⟩
set_option maxRecDepth 100000 in
theorem zq_110_0 : ∀ e ∈ zm_c110_0, zm_okq 110 e.2 := List.forall_mem_cons.mpr ⟨trivial, List.forall_mem_cons.mpr ⟨trivial, List.forall_mem_cons.mpr ⟨⟨_, _, _, rfl, by decide, zm_f4.1, zm_f4.2.1, zm_f4.2.2, Or.inl ⟨_, zw_119, Or.inr zw_120⟩⟩, List.forall_mem_cons.mpr ⟨trivial, List.forall_mem_cons.mpr ⟨trivial, List.forall_mem_cons.mpr ⟨⟨⟨_, _, _, rfl, by decide, zm_f4.1, zm_f4.2.1, zm_f4.2.2, Or.inl ⟨_, zw_119, Or.inr zw_120⟩⟩, zm_okw_n rfl rfl⟩, fun _ h => absurd h List.not_mem_nil⟩⟩⟩⟩⟩⟩
set_option maxRecDepth 100000 in
theorem zq_110_1 : ∀ e ∈ zm_c110_1, zm_okq 110 e.2 := List.forall_mem_cons.mpr ⟨trivial, List.forall_mem_cons.mpr ⟨trivial, List.forall_mem_cons.mpr ⟨trivial, List.forall_mem_cons.mpr ⟨⟨_, _, _, rfl, by decide, zm_f4.1, zm_f4.2.1, zm_f4.2.2, Or.inl ⟨_, zw_116, Or.inl rfl⟩⟩, List.forall_mem_cons.mpr ⟨trivial, List.forall_mem_cons.mpr ⟨⟨_, _, _, rfl, by decide, zm_f4.1, zm_f4.2.1, zm_f4.2.2, Or.inl ⟨_, zw_117, Or.inl rfl⟩⟩, fun _ h => absurd h List.not_mem_nil⟩⟩⟩⟩⟩⟩
set_option maxRecDepth 100000 in
theorem zq_110_2 : ∀ e ∈ zm_c110_2, zm_okq 110 e.2 := List.forall_mem_cons.mpr ⟨trivial, List.forall_mem_cons.mpr ⟨trivial, List.forall_mem_cons.mpr ⟨trivial, fun _ h => absurd h List.not_mem_nil⟩⟩⟩
set_option maxRecDepth 100000 in
theorem zq_111_0 : ∀ e ∈ zm_c111_0, zm_okq 111 e.2 := List.forall_mem_cons.mpr ⟨trivial, List.forall_mem_cons.mpr ⟨trivial, List.forall_mem_cons.mpr ⟨trivial, List.forall_mem_cons.mpr ⟨trivial, List.forall_mem_cons.mpr ⟨trivial, List.forall_mem_cons.mpr ⟨trivial, fun _ h => absurd h List.not_mem_nil⟩⟩⟩⟩⟩⟩
set_option maxRecDepth 100000 in
theorem zq_111_1 : ∀ e ∈ zm_c111_1, zm_okq 111 e.2 := List.forall_mem_cons.mpr ⟨trivial, List.forall_mem_cons.mpr ⟨trivial, List.forall_mem_cons.mpr ⟨trivial, List.forall_mem_cons.mpr ⟨trivial, List.forall_mem_cons.mpr ⟨trivial, List.forall_mem_cons.mpr ⟨trivial, fun _ h => absurd h List.not_mem_nil⟩⟩⟩⟩⟩⟩
set_option maxRecDepth 100000 in
theorem zq_111_2 : ∀ e ∈ zm_c111_2, zm_okq 111 e.2 := List.forall_mem_cons.mpr ⟨trivial, List.forall_mem_cons.mpr ⟨trivial, List.forall_mem_cons.mpr ⟨trivial, List.forall_mem_cons.mpr ⟨⟨⟨_, _, _, rfl, by decide, zm_f4.1, zm_f4.2.1, zm_f4.2.2, Or.inl ⟨_, zw_117, Or.inl rfl⟩⟩, zm_okw_n rfl rfl⟩, List.forall_mem_cons.mpr ⟨trivial, fun _ h => absurd h List.not_mem_nil⟩⟩⟩⟩⟩
set_option maxRecDepth 100000 in
theorem zq_112_0 : ∀ e ∈ zm_c112_0, zm_okq 112 e.2 := List.forall_mem_cons.mpr ⟨trivial, List.forall_mem_cons.mpr ⟨trivial, List.forall_mem_cons.mpr ⟨⟨_, _, _, rfl, by decide, zm_f4.1, zm_f4.2.1, zm_f4.2.2, Or.inl ⟨_, zw_117, Or.inl rfl⟩⟩, List.forall_mem_cons.mpr ⟨trivial, List.forall_mem_cons.mpr ⟨trivial, List.forall_mem_cons.mpr ⟨trivial, fun _ h => absurd h List.not_mem_nil⟩⟩⟩⟩⟩⟩
set_option maxRecDepth 100000 in
theorem zq_112_1 : ∀ e ∈ zm_c112_1, zm_okq 112 e.2 := List.forall_mem_cons.mpr ⟨trivial, fun _ h => absurd h List.not_mem_nil⟩
set_option maxRecDepth 100000 in
theorem zq_113_0 : ∀ e ∈ zm_c113_0, zm_okq 113 e.2 := List.forall_mem_cons.mpr ⟨trivial, List.forall_mem_cons.mpr ⟨⟨_, _, _, rfl, by decide, zm_f4.1, zm_f4.2.1, zm_f4.2.2, Or.inl ⟨_, zw_116, Or.inl rfl⟩⟩, List.forall_mem_cons.mpr ⟨trivial, List.forall_mem_cons.mpr ⟨trivial, List.forall_mem_cons.mpr ⟨trivial, List.forall_mem_cons.mpr ⟨trivial, fun _ h => absurd h List.not_mem_nil⟩⟩⟩⟩⟩⟩
set_option maxRecDepth 100000 in
theorem zq_113_1 : ∀ e ∈ zm_c113_1, zm_okq 113 e.2 := List.forall_mem_cons.mpr ⟨trivial, List.forall_mem_cons.mpr ⟨⟨_, _, _, rfl, by decide, zm_f4.1, zm_f4.2.1, zm_f4.2.2, Or.inl ⟨_, zw_116, Or.inl rfl⟩⟩, List.forall_mem_cons.mpr ⟨⟨_, List.mem_cons_self, rfl, zw_114⟩, List.forall_mem_cons.mpr ⟨trivial, List.forall_mem_cons.mpr ⟨trivial, List.forall_mem_cons.mpr ⟨trivial, fun _ h => absurd h List.not_mem_nil⟩⟩⟩⟩⟩⟩
set_option maxRecDepth 100000 in
theorem zq_113_2 : ∀ e ∈ zm_c113_2, zm_okq 113 e.2 := List.forall_mem_cons.mpr ⟨trivial, List.forall_mem_cons.mpr ⟨trivial, List.forall_mem_cons.mpr ⟨trivial, List.forall_mem_cons.mpr ⟨trivial, List.forall_mem_cons.mpr ⟨trivial, List.forall_mem_cons.mpr ⟨trivial, fun _ h => absurd h List.not_mem_nil⟩⟩⟩⟩⟩⟩
set_option maxRecDepth 100000 in
theorem zq_113_3 : ∀ e ∈ zm_c113_3, zm_okq 113 e.2 := List.forall_mem_cons.mpr ⟨trivial, List.forall_mem_cons.mpr ⟨trivial, List.forall_mem_cons.mpr ⟨trivial, List.forall_mem_cons.mpr ⟨⟨_, _, _, rfl, by decide, zm_f4.1, zm_f4.2.1, zm_f4.2.2, Or.inl ⟨_, zw_116, Or.inl rfl⟩⟩, List.forall_mem_cons.mpr ⟨trivial, List.forall_mem_cons.mpr ⟨trivial, fun _ h => absurd h List.not_mem_nil⟩⟩⟩⟩⟩⟩
set_option maxRecDepth 100000 in
theorem zq_113_4 : ∀ e ∈ zm_c113_4, zm_okq 113 e.2 := List.forall_mem_cons.mpr ⟨trivial, List.forall_mem_cons.mpr ⟨⟨⟨_, _, _, rfl, by decide, zm_f4.1, zm_f4.2.1, zm_f4.2.2, Or.inl ⟨_, zw_116, Or.inl rfl⟩⟩, zm_okw_n rfl rfl⟩, List.forall_mem_cons.mpr ⟨trivial, List.forall_mem_cons.mpr ⟨trivial, List.forall_mem_cons.mpr ⟨trivial, List.forall_mem_cons.mpr ⟨trivial, fun _ h => absurd h List.not_mem_nil⟩⟩⟩⟩⟩⟩
set_option maxRecDepth 100000 in
theorem zq_113_5 : ∀ e ∈ zm_c113_5, zm_okq 113 e.2 := List.forall_mem_cons.mpr ⟨trivial, List.forall_mem_cons.mpr ⟨⟨_, rfl, zw_488, zw_497⟩, List.forall_mem_cons.mpr ⟨trivial, List.forall_mem_cons.mpr ⟨⟨⟨_, _, _, rfl, by decide, zm_f4.1, zm_f4.2.1, zm_f4.2.2, Or.inl ⟨_, zw_116, Or.inl rfl⟩⟩, zm_okw_n rfl rfl⟩, List.forall_mem_cons.mpr ⟨trivial, fun _ h => absurd h List.not_mem_nil⟩⟩⟩⟩⟩
set_option maxRecDepth 100000 in
theorem zq_114_0 : ∀ e ∈ zm_c114_0, zm_okq 114 e.2 := List.forall_mem_cons.mpr ⟨trivial, List.forall_mem_cons.mpr ⟨trivial, List.forall_mem_cons.mpr ⟨trivial, List.forall_mem_cons.mpr ⟨trivial, List.forall_mem_cons.mpr ⟨trivial, fun _ h => absurd h List.not_mem_nil⟩⟩⟩⟩⟩
set_option maxRecDepth 100000 in
theorem zq_115_0 : ∀ e ∈ zm_c115_0, zm_okq 115 e.2 := List.forall_mem_cons.mpr ⟨trivial, List.forall_mem_cons.mpr ⟨trivial, List.forall_mem_cons.mpr ⟨trivial, List.forall_mem_cons.mpr ⟨trivial, List.forall_mem_cons.mpr ⟨trivial, List.forall_mem_cons.mpr ⟨trivial, fun _ h => absurd h List.not_mem_nil⟩⟩⟩⟩⟩⟩
set_option maxRecDepth 100000 in
theorem zq_115_1 : ∀ e ∈ zm_c115_1, zm_okq 115 e.2 := List.forall_mem_cons.mpr ⟨trivial, List.forall_mem_cons.mpr ⟨trivial, List.forall_mem_cons.mpr ⟨trivial, List.forall_mem_cons.mpr ⟨trivial, List.forall_mem_cons.mpr ⟨trivial, List.forall_mem_cons.mpr ⟨trivial, fun _ h => absurd h List.not_mem_nil⟩⟩⟩⟩⟩⟩
set_option maxRecDepth 100000 in
theorem zq_116_0 : ∀ e ∈ zm_c116_0, zm_okq 116 e.2 := List.forall_mem_cons.mpr ⟨trivial, List.forall_mem_cons.mpr ⟨trivial, List.forall_mem_cons.mpr ⟨trivial, List.forall_mem_cons.mpr ⟨trivial, List.forall_mem_cons.mpr ⟨trivial, List.forall_mem_cons.mpr ⟨trivial, fun _ h => absurd h List.not_mem_nil⟩⟩⟩⟩⟩⟩
set_option maxRecDepth 100000 in
theorem zq_116_1 : ∀ e ∈ zm_c116_1, zm_okq 116 e.2 := List.forall_mem_cons.mpr ⟨trivial, List.forall_mem_cons.mpr ⟨trivial, List.forall_mem_cons.mpr ⟨trivial, List.forall_mem_cons.mpr ⟨trivial, List.forall_mem_cons.mpr ⟨zw_458, List.forall_mem_cons.mpr ⟨trivial, fun _ h => absurd h List.not_mem_nil⟩⟩⟩⟩⟩⟩
set_option maxRecDepth 100000 in
theorem zq_116_2 : ∀ e ∈ zm_c116_2, zm_okq 116 e.2 := List.forall_mem_cons.mpr ⟨trivial, List.forall_mem_cons.mpr ⟨trivial, List.forall_mem_cons.mpr ⟨trivial, List.forall_mem_cons.mpr ⟨trivial, List.forall_mem_cons.mpr ⟨trivial, List.forall_mem_cons.mpr ⟨trivial, fun _ h => absurd h List.not_mem_nil⟩⟩⟩⟩⟩⟩
set_option maxRecDepth 100000 in
theorem zq_117_0 : ∀ e ∈ zm_c117_0, zm_okq 117 e.2 := List.forall_mem_cons.mpr ⟨trivial, List.forall_mem_cons.mpr ⟨trivial, List.forall_mem_cons.mpr ⟨trivial, List.forall_mem_cons.mpr ⟨trivial, List.forall_mem_cons.mpr ⟨trivial, List.forall_mem_cons.mpr ⟨trivial, fun _ h => absurd h List.not_mem_nil⟩⟩⟩⟩⟩⟩
set_option maxRecDepth 100000 in
theorem zq_118_0 : ∀ e ∈ zm_c118_0, zm_okq 118 e.2 := List.forall_mem_cons.mpr ⟨trivial, List.forall_mem_cons.mpr ⟨trivial, List.forall_mem_cons.mpr ⟨trivial, List.forall_mem_cons.mpr ⟨⟨_, rfl, zw_488, zw_489⟩, List.forall_mem_cons.mpr ⟨trivial, List.forall_mem_cons.mpr ⟨trivial, fun _ h => absurd h List.not_mem_nil⟩⟩⟩⟩⟩⟩
set_option maxRecDepth 100000 in
theorem zq_118_1 : ∀ e ∈ zm_c118_1, zm_okq 118 e.2 := List.forall_mem_cons.mpr ⟨trivial, List.forall_mem_cons.mpr ⟨trivial, List.forall_mem_cons.mpr ⟨trivial, List.forall_mem_cons.mpr ⟨trivial, List.forall_mem_cons.mpr ⟨trivial, List.forall_mem_cons.mpr ⟨trivial, fun _ h => absurd h List.not_mem_nil⟩⟩⟩⟩⟩⟩
set_option maxRecDepth 100000 in
theorem zq_118_2 : ∀ e ∈ zm_c118_2, zm_okq 118 e.2 := List.forall_mem_cons.mpr ⟨trivial, List.forall_mem_cons.mpr ⟨trivial, List.forall_mem_cons.mpr ⟨trivial, List.forall_mem_cons.mpr ⟨trivial, List.forall_mem_cons.mpr ⟨trivial, List.forall_mem_cons.mpr ⟨trivial, fun _ h => absurd h List.not_mem_nil⟩⟩⟩⟩⟩⟩
set_option maxRecDepth 100000 in
theorem zq_118_3 : ∀ e ∈ zm_c118_3, zm_okq 118 e.2 := List.forall_mem_cons.mpr ⟨trivial, List.forall_mem_cons.mpr ⟨trivial, List.forall_mem_cons.mpr ⟨trivial, fun _ h => absurd h List.not_mem_nil⟩⟩⟩
