/-! what throws; the methods that may throw; reach, great -/
theorem xd_at50 : ∀ x ∈ vx_atS "TwoGenerations" 50 "java/lang/IllegalArgumentException" ["java/lang/RuntimeException", "java/lang/Exception"], x ∈ TT := by decide +kernel
theorem xd_at136 : ∀ x ∈ vx_atS "TwoGenerations" 136 "java/lang/IllegalStateException" ["java/lang/RuntimeException", "java/lang/Exception"], x ∈ TT := by decide +kernel
theorem xd_ot50 : ∀ x ∈ Cond.classLink "TwoGenerations" 46 "java/lang/IllegalArgumentException" :: Cond.initialized "java/lang/IllegalArgumentException" :: vx_atS "TwoGenerations" 50 "java/lang/IllegalArgumentException" ["java/lang/RuntimeException", "java/lang/Exception"], vx_ot x = true := by decide +kernel
theorem xd_ot136 : ∀ x ∈ Cond.classLink "TwoGenerations" 132 "java/lang/IllegalStateException" :: Cond.initialized "java/lang/IllegalStateException" :: vx_atS "TwoGenerations" 136 "java/lang/IllegalStateException" ["java/lang/RuntimeException", "java/lang/Exception"], vx_ot x = true := by decide +kernel
theorem xd_IA {is : Nat} {text : String} (h : (is, text) ∈ srL) : XD "TwoGenerations" 46 is 50 "java/lang/IllegalArgumentException" text := ⟨by decide +kernel, by decide +kernel, by decide +kernel, h, xd_at50, xd_ot50⟩
theorem xd_IS {is : Nat} {text : String} (h : (is, text) ∈ srL) : XD "TwoGenerations" 132 is 136 "java/lang/IllegalStateException" text := ⟨by decide +kernel, by decide +kernel, by decide +kernel, h, xd_at136, xd_ot136⟩
theorem sr_48 : (48, "no such register, or too few or too many fields") ∈ srL := by decide
theorem sr_134 : (134, "the old generation is full") ∈ srL := by decide
theorem sr_64 : (64, "no such register, or no object to aim at") ∈ srL := by decide
theorem sr_78 : (78, "no such register or field") ∈ srL := by decide
theorem sr_87 : (87, "no such register, or no weak cell") ∈ srL := by decide
theorem sr_95 : (95, "no such register, or the int is out of range") ∈ srL := by decide
theorem sr_100 : (100, "no such register") ∈ srL := by decide
