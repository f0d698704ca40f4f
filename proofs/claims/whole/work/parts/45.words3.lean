theorem hw_45 : Cond.instanceMethod yX2_init ∈ xw_big := xw_in (List.mem_of_getElem? (i := 45) (by decide +kernel)) (by decide +kernel)
theorem hw_46 : Cond.code yX2_init cX2_init 2 none ∈ xw_big := xw_in (List.mem_of_getElem? (i := 46) (by decide +kernel)) (by decide +kernel)
theorem hw_48 : Cond.instanceMethod Lib.objectInit ∈ xw_big := xw_in (List.mem_of_getElem? (i := 48) (by decide +kernel)) (by decide +kernel)
theorem hw_49 : Cond.code Lib.objectInit ⟨#[0xb1]⟩ 1 none ∈ xw_big := xw_in (List.mem_of_getElem? (i := 49) (by decide +kernel)) (by decide +kernel)
theorem hw_54 : Cond.instanceMethod yX1_init ∈ xw_big := xw_in (List.mem_of_getElem? (i := 54) (by decide +kernel)) (by decide +kernel)
theorem hw_55 : Cond.code yX1_init cX1_init 3 none ∈ xw_big := xw_in (List.mem_of_getElem? (i := 55) (by decide +kernel)) (by decide +kernel)
theorem hw_56 : Cond.methodLink RX1 3 Lib.objectInit ∈ xw_big := xw_in (List.mem_of_getElem? (i := 56) (by decide +kernel)) (by decide +kernel)
theorem hw_57 : Cond.classLink RX1 33 "[[I" ∈ xw_big := xw_in (List.mem_of_getElem? (i := 57) (by decide +kernel)) (by decide +kernel)
theorem hw_102 : Cond.arrayClass .int ∈ xw_big := xw_in (List.mem_of_getElem? (i := 102) (by decide +kernel)) (by decide +kernel)
theorem hw_106 : Cond.instanceMethod yX0_init ∈ xw_big := xw_in (List.mem_of_getElem? (i := 106) (by decide +kernel)) (by decide +kernel)
theorem hw_107 : Cond.code yX0_init cX0_init 1 none ∈ xw_big := xw_in (List.mem_of_getElem? (i := 107) (by decide +kernel)) (by decide +kernel)
theorem hw_108 : Cond.methodLink RX0 3 Lib.objectInit ∈ xw_big := xw_in (List.mem_of_getElem? (i := 108) (by decide +kernel)) (by decide +kernel)
theorem hw_109 : Cond.classLink RX0 9 "[[I" ∈ xw_big := xw_in (List.mem_of_getElem? (i := 109) (by decide +kernel)) (by decide +kernel)
theorem hw_480 : Cond.instanceMethod yX3_init ∈ xw_big := xw_in (List.mem_of_getElem? (i := 480) (by decide +kernel)) (by decide +kernel)
theorem hw_481 : Cond.code yX3_init cX3_init 2 none ∈ xw_big := xw_in (List.mem_of_getElem? (i := 481) (by decide +kernel)) (by decide +kernel)
theorem hw_663 : Cond.arrayClass .long ∈ xw_big := xw_in (List.mem_of_getElem? (i := 663) (by decide +kernel)) (by decide +kernel)
theorem FX0_init : xf_I yX0_init cX0_init 1 0 := ⟨hw_106, hw_34, hw_107, by decide +kernel⟩
theorem FX1_init : xf_I yX1_init cX1_init 3 1 := ⟨hw_54, hw_32, hw_55, by decide +kernel⟩
theorem FX2_init : xf_I yX2_init cX2_init 2 0 := ⟨hw_45, hw_31, hw_46, by decide +kernel⟩
theorem FX3_init : xf_I yX3_init cX3_init 2 0 := ⟨hw_480, hw_35, hw_481, by decide +kernel⟩
