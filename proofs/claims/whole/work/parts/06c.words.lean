theorem pm_acI : (Cond.arrayClass .int) ∈ pm_tb := pm_tb_in (i := 232) (by decide +kernel) rfl
theorem pm_acB : (Cond.arrayClass .byte) ∈ pm_tb := pm_tb_in (i := 231) (by decide +kernel) rfl
theorem pm_acZ : (Cond.arrayClass .boolean) ∈ pm_tb := pm_tb_in (i := 1780) (by decide +kernel) rfl
theorem pm_acL : (Cond.arrayClass .long) ∈ pm_tb := pm_tb_in (i := 1779) (by decide +kernel) rfl
theorem pm_oiI : (Cond.instanceMethod objectInit) ∈ pm_tb := pm_tb_in (i := 177) (by decide +kernel) rfl
theorem pm_oiC : (Cond.code objectInit ⟨#[0xb1]⟩ 1 none) ∈ pm_tb := pm_tb_in (i := 178) (by decide +kernel) rfl
theorem pm_acN : (Cond.native arraycopyName) ∈ pm_tb := pm_tb_in (i := 1049) (by decide +kernel) rfl
theorem pm_acS : (Cond.static arraycopyName) ∈ pm_tb := pm_tb_in (i := 1048) (by decide +kernel) rfl
theorem pm_syI : (Cond.initialized "java/lang/System") ∈ pm_tb := pm_tb_in (i := 170) (by decide +kernel) rfl
theorem pm_maI : (Cond.initialized "java/lang/Math") ∈ pm_tb := pm_tb_in (i := 168) (by decide +kernel) rfl
theorem pm_maxS : (Cond.static Lib.Math.max.name) ∈ pm_tb := pm_tb_in (i := 847) (by decide +kernel) rfl
theorem pm_maxC : (Cond.code Lib.Math.max.name Lib.Math.max.code 2 (some .int)) ∈ pm_tb := pm_tb_in (i := 848) (by decide +kernel) rfl
theorem pm_minS : (Cond.static Lib.Math.min.name) ∈ pm_tb := pm_tb_in (i := 816) (by decide +kernel) rfl
theorem pm_minC : (Cond.code Lib.Math.min.name Lib.Math.min.code 2 (some .int)) ∈ pm_tb := pm_tb_in (i := 817) (by decide +kernel) rfl
theorem pm_kd0 : ∀ m, m < 308 → pm_kd m = 0 → pm_cl m < 13 := by decide +kernel
theorem pm_kd2 : ∀ m, m < 308 → pm_kd m = 2 → pm_rt m = none := by decide +kernel
