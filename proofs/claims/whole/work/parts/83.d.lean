/-! THE LAW: the words of its first steps (written by wip/whole/gen/cgen.py) -/
theorem wyX8_init : Wy yX8_init cX8_init 1 none 0 := ⟨in_g 63 (by decide +kernel) (by decide +kernel), in_g 47 (by decide +kernel) (by decide +kernel), by decide +kernel, by decide +kernel, by decide +kernel⟩
theorem tiX8_init : Cond.instanceMethod yX8_init ∈ lw_g := in_g 62 (by decide +kernel) (by decide +kernel)
theorem tn_X8 : Cond.instantiable RX8 5 ∈ lw_g := in_g 60 (by decide +kernel) (by decide +kernel)
theorem tz_X8 : Cond.initialized RX8 ∈ lw_g := in_g 47 (by decide +kernel) (by decide +kernel)
theorem wyX9_init : Wy yX9_init cX9_init 1 none 0 := ⟨in_g 749 (by decide +kernel) (by decide +kernel), in_g 58 (by decide +kernel) (by decide +kernel), by decide +kernel, by decide +kernel, by decide +kernel⟩
theorem tiX9_init : Cond.instanceMethod yX9_init ∈ lw_g := in_g 748 (by decide +kernel) (by decide +kernel)
theorem tn_X9 : Cond.instantiable RX9 10 ∈ lw_g := in_g 746 (by decide +kernel) (by decide +kernel)
theorem tz_X9 : Cond.initialized RX9 ∈ lw_g := in_g 58 (by decide +kernel) (by decide +kernel)
theorem tlL_7 : Cond.classLink RL 7 RX8 ∈ lw_g := in_g 59 (by decide +kernel) (by decide +kernel)
theorem tlL_10 : Cond.classLink RL 10 RX9 ∈ lw_g := in_g 745 (by decide +kernel) (by decide +kernel)
theorem tmL_9 : Cond.methodLink RL 9 yX8_init ∈ lw_g := in_g 61 (by decide +kernel) (by decide +kernel)
theorem tmL_12 : Cond.methodLink RL 12 yX9_init ∈ lw_g := in_g 747 (by decide +kernel) (by decide +kernel)
theorem dL_0 : decode code 0 = .ok (.new 7, 3) := by decide +kernel
theorem dL_3 : decode code 3 = .ok (.dup, 1) := by decide +kernel
theorem dL_4 : decode code 4 = .ok (.invokespecial 9, 3) := by decide +kernel
theorem dL_7 : decode code 7 = .ok (.astore_n 1, 1) := by decide +kernel
theorem dL_8 : decode code 8 = .ok (.new 10, 3) := by decide +kernel
theorem dL_11 : decode code 11 = .ok (.dup, 1) := by decide +kernel
theorem dL_12 : decode code 12 = .ok (.invokespecial 12, 3) := by decide +kernel
theorem dL_15 : decode code 15 = .ok (.astore_n 2, 1) := by decide +kernel
theorem dL_16 : decode code 16 = .ok (.iconst 0, 1) := by decide +kernel
theorem dL_17 : decode code 17 = .ok (.istore_n 3, 1) := by decide +kernel
