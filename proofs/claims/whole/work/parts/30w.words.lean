theorem wm2_11 : Cond.classLink RDM 50 "java/lang/IndexOutOfBoundsException" ∈ wsA := memA2 (i := 11) rfl rfl
theorem wm1_13 : Cond.initialized "java/lang/IndexOutOfBoundsException" ∈ wsA := memA1 (i := 13) rfl rfl
theorem wm2_84 : Cond.classLink RDM 63 "java/lang/IllegalArgumentException" ∈ wsA := memA2 (i := 84) rfl rfl
theorem wm1_15 : Cond.initialized "java/lang/IllegalArgumentException" ∈ wsA := memA1 (i := 15) rfl rfl
theorem wm2_146 : Cond.classLink RDM 91 "java/lang/IllegalStateException" ∈ wsA := memA2 (i := 146) rfl rfl
theorem wm1_16 : Cond.initialized "java/lang/IllegalStateException" ∈ wsA := memA1 (i := 16) rfl rfl
theorem wm3_56 : Cond.classLink RDM 143 "java/lang/UnsupportedOperationException" ∈ wsA := memA3 (i := 56) rfl rfl
theorem wm1_18 : Cond.initialized "java/lang/UnsupportedOperationException" ∈ wsA := memA1 (i := 18) rfl rfl
