/-! What the throws stand on. -/
def gExN : List String := ["java/lang/RuntimeException", "java/lang/Exception"]
theorem at0_0 : ∀ w ∈ vx_atS R_SQ 209 "java/lang/IllegalStateException" gExN, w ∈ lw_tbl ∧ gNok w = true := by decide +kernel
theorem at_0 : ∀ w ∈ vx_atS R_SQ 209 "java/lang/IllegalStateException" gExN, w ∈ gNl := fun w h => List.mem_filter.mpr (at0_0 w h)
theorem got_0 : ∀ w ∈ Cond.classLink R_SQ 205 "java/lang/IllegalStateException" :: Cond.initialized "java/lang/IllegalStateException" :: vx_atS R_SQ 209 "java/lang/IllegalStateException" gExN, vx_ot w = true := by decide +kernel
theorem at0_1 : ∀ w ∈ vx_atS R_SQ 57 "java/lang/IllegalArgumentException" gExN, w ∈ lw_tbl ∧ gNok w = true := by decide +kernel
theorem at_1 : ∀ w ∈ vx_atS R_SQ 57 "java/lang/IllegalArgumentException" gExN, w ∈ gNl := fun w h => List.mem_filter.mpr (at0_1 w h)
theorem got_1 : ∀ w ∈ Cond.classLink R_SQ 53 "java/lang/IllegalArgumentException" :: Cond.initialized "java/lang/IllegalArgumentException" :: vx_atS R_SQ 57 "java/lang/IllegalArgumentException" gExN, vx_ot w = true := by decide +kernel
theorem at0_2 : ∀ w ∈ vx_atS R_SQ 166 "java/lang/IndexOutOfBoundsException" gExN, w ∈ lw_tbl ∧ gNok w = true := by decide +kernel
theorem at_2 : ∀ w ∈ vx_atS R_SQ 166 "java/lang/IndexOutOfBoundsException" gExN, w ∈ gNl := fun w h => List.mem_filter.mpr (at0_2 w h)
theorem got_2 : ∀ w ∈ Cond.classLink R_SQ 162 "java/lang/IndexOutOfBoundsException" :: Cond.initialized "java/lang/IndexOutOfBoundsException" :: vx_atS R_SQ 166 "java/lang/IndexOutOfBoundsException" gExN, vx_ot w = true := by decide +kernel
