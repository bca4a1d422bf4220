/-! the class's calls that may throw, each with all its ways -/
def hvF (z : Nat → Int32) (a : Nat) : Int32 := if hmB z a = true then sl (hmZ z a) a 6 - sl z a 6 else -1
theorem hd_X5_earn : yX5_earn.cls ≠ "java/lang/invoke/MethodHandle" ∧ yX5_earn.cls ≠ "java/lang/invoke/VarHandle" ∧ (parseMethodDescriptor yX5_earn.desc).map (fun d => d.parameters.length) = some 1 := by decide +kernel
theorem hd_X5_load : yX5_load.cls ≠ "java/lang/invoke/MethodHandle" ∧ yX5_load.cls ≠ "java/lang/invoke/VarHandle" ∧ (parseMethodDescriptor yX5_load.desc).map (fun d => d.parameters.length) = some 2 := by decide +kernel
theorem hd_X5_go : yX5_go.cls ≠ "java/lang/invoke/MethodHandle" ∧ yX5_go.cls ≠ "java/lang/invoke/VarHandle" ∧ (parseMethodDescriptor yX5_go.desc).map (fun d => d.parameters.length) = some 2 := by decide +kernel
theorem hd_X5_home : yX5_home.cls ≠ "java/lang/invoke/MethodHandle" ∧ yX5_home.cls ≠ "java/lang/invoke/VarHandle" ∧ (parseMethodDescriptor yX5_home.desc).map (fun d => d.parameters.length) = some 1 := by decide +kernel
theorem hd_X5_grease : yX5_grease.cls ≠ "java/lang/invoke/MethodHandle" ∧ yX5_grease.cls ≠ "java/lang/invoke/VarHandle" ∧ (parseMethodDescriptor yX5_grease.desc).map (fun d => d.parameters.length) = some 1 := by decide +kernel
theorem hd_X5_mend : yX5_mend.cls ≠ "java/lang/invoke/MethodHandle" ∧ yX5_mend.cls ≠ "java/lang/invoke/VarHandle" ∧ (parseMethodDescriptor yX5_mend.desc).map (fun d => d.parameters.length) = some 2 := by decide +kernel
theorem hd_X5_axis : yX5_axis.cls ≠ "java/lang/invoke/MethodHandle" ∧ yX5_axis.cls ≠ "java/lang/invoke/VarHandle" ∧ (parseMethodDescriptor yX5_axis.desc).map (fun d => d.parameters.length) = some 2 := by decide +kernel
theorem hd_X5_wear : yX5_wear.cls ≠ "java/lang/invoke/MethodHandle" ∧ yX5_wear.cls ≠ "java/lang/invoke/VarHandle" ∧ (parseMethodDescriptor yX5_wear.desc).map (fun d => d.parameters.length) = some 2 := by decide +kernel
theorem hd_X5_count : yX5_count.cls ≠ "java/lang/invoke/MethodHandle" ∧ yX5_count.cls ≠ "java/lang/invoke/VarHandle" ∧ (parseMethodDescriptor yX5_count.desc).map (fun d => d.parameters.length) = some 1 := by decide +kernel
theorem hd_X5_cost : yX5_cost.cls ≠ "java/lang/invoke/MethodHandle" ∧ yX5_cost.cls ≠ "java/lang/invoke/VarHandle" ∧ (parseMethodDescriptor yX5_cost.desc).map (fun d => d.parameters.length) = some 3 := by decide +kernel
theorem hd_X5_ifHomed : yX5_ifHomed.cls ≠ "java/lang/invoke/MethodHandle" ∧ yX5_ifHomed.cls ≠ "java/lang/invoke/VarHandle" ∧ (parseMethodDescriptor yX5_ifHomed.desc).map (fun d => d.parameters.length) = some 2 := by decide +kernel
