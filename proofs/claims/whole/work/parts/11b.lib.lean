/-! words of the JDK that the machine's own rows ask for -/
set_option maxRecDepth 20000 in
theorem am_k_abs : Cond.code Lib.Math.abs.name Lib.Math.abs.code 1 (some .int) ∈ lw_g := lw_g_in (List.mem_of_getElem? (i := 1551) rfl) rfl
set_option maxRecDepth 20000 in
theorem am_k_max : Cond.code Lib.Math.max.name Lib.Math.max.code 2 (some .int) ∈ lw_g := lw_g_in (List.mem_of_getElem? (i := 129) rfl) rfl
set_option maxRecDepth 20000 in
theorem am_k_min : Cond.code Lib.Math.min.name Lib.Math.min.code 2 (some .int) ∈ lw_g := lw_g_in (List.mem_of_getElem? (i := 764) rfl) rfl
set_option maxRecDepth 20000 in
theorem am_k_obj : Cond.code Lib.objectInit ⟨#[0xb1]⟩ 1 none ∈ lw_g := lw_g_in (List.mem_of_getElem? (i := 118) rfl) rfl
theorem am_k_oi : (.instanceMethod Lib.objectInit : Cond) ∈ lw_g := am_w_in (by decide +kernel)
theorem am_k_sabs : (.static Lib.Math.abs.name : Cond) ∈ lw_g := am_w_in (by decide +kernel)
theorem am_k_smax : (.static Lib.Math.max.name : Cond) ∈ lw_g := am_w_in (by decide +kernel)
theorem am_k_smin : (.static Lib.Math.min.name : Cond) ∈ lw_g := am_w_in (by decide +kernel)
theorem am_k_imath : (.initialized "java/lang/Math" : Cond) ∈ lw_g := am_w_in (by decide +kernel)
theorem am_k_nat : (.native arraycopyName : Cond) ∈ lw_g := am_w_in (by decide +kernel)
theorem am_k_snat : (.static arraycopyName : Cond) ∈ lw_g := am_w_in (by decide +kernel)
theorem am_k_isys : (.initialized "java/lang/System" : Cond) ∈ lw_g := am_w_in (by decide +kernel)
