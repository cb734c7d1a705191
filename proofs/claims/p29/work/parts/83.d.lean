/-! THE LAW: the words of its first steps (written by wip/p29/gen/cgen.py) -/
theorem wyX8_init : Wy yX8_init cX8_init 1 none 0 := ⟨in_g 35 (by decide +kernel) (by decide +kernel), in_g 20 (by decide +kernel) (by decide +kernel), by decide +kernel, by decide +kernel, by decide +kernel⟩
theorem tiX8_init : Cond.instanceMethod yX8_init ∈ lw_g := in_g 34 (by decide +kernel) (by decide +kernel)
theorem tn_X8 : Cond.instantiable RX8 5 ∈ lw_g := in_g 32 (by decide +kernel) (by decide +kernel)
theorem tz_X8 : Cond.initialized RX8 ∈ lw_g := in_g 20 (by decide +kernel) (by decide +kernel)
theorem tlL_9 : Cond.classLink RL 9 RX8 ∈ lw_g := in_g 31 (by decide +kernel) (by decide +kernel)
theorem tmL_11 : Cond.methodLink RL 11 yX8_init ∈ lw_g := in_g 33 (by decide +kernel) (by decide +kernel)
