/-! words of the law's entry, by program (wip/whole/z1.py) -/
theorem aw_733 : Cond.classLink RL 8 RX3 ∈ AW := aw_of (List.mem_of_getElem? (i := 67) (by decide +kernel)) (by decide +kernel)
theorem aw_734 : Cond.instantiable RX3 5 ∈ AW := aw_of (List.mem_of_getElem? (i := 68) (by decide +kernel)) (by decide +kernel)
theorem aw_735 : Cond.classLink RL 61 RX4 ∈ AW := aw_of (List.mem_of_getElem? (i := 709) (by decide +kernel)) (by decide +kernel)
theorem aw_736 : Cond.instantiable RX4 17 ∈ AW := aw_of (List.mem_of_getElem? (i := 710) (by decide +kernel)) (by decide +kernel)
theorem aw_737 : Cond.arrayClass .long ∈ AW := aw_of (List.mem_of_getElem? (i := 913) (by decide +kernel)) (by decide +kernel)
theorem aw_738 : Cond.methodLink RL 60 yX3_init ∈ AW := aw_of (List.mem_of_getElem? (i := 69) (by decide +kernel)) (by decide +kernel)
theorem aw_739 : Cond.instanceMethod yX3_init ∈ AW := aw_of (List.mem_of_getElem? (i := 70) (by decide +kernel)) (by decide +kernel)
set_option maxRecDepth 100000 in
theorem aw_740 : Cond.code yX3_init cX3_init 1 none ∈ AW := aw_of (List.mem_of_getElem? (i := 71) rfl) (by decide +kernel)
theorem cwi_RL_60 : e_cwI RL 60 yX3_init cX3_init 1 0 := ⟨aw_738, aw_739, aw_162, aw_740, rfl, by decide +kernel, by decide +kernel, by decide +kernel⟩
theorem aw_742 : Cond.methodLink RL 63 yX4_init ∈ AW := aw_of (List.mem_of_getElem? (i := 711) (by decide +kernel)) (by decide +kernel)
theorem aw_743 : Cond.instanceMethod yX4_init ∈ AW := aw_of (List.mem_of_getElem? (i := 712) (by decide +kernel)) (by decide +kernel)
set_option maxRecDepth 100000 in
theorem aw_744 : Cond.code yX4_init cX4_init 1 none ∈ AW := aw_of (List.mem_of_getElem? (i := 713) rfl) (by decide +kernel)
theorem cwi_RL_63 : e_cwI RL 63 yX4_init cX4_init 1 0 := ⟨aw_742, aw_743, aw_4, aw_744, rfl, by decide +kernel, by decide +kernel, by decide +kernel⟩
