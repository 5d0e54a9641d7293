theorem wc_J_Math_max : Cond.code Lib.Math.max.name Lib.Math.max.code 2 (some .int) ∈ tb := tb_in (i := 722) (by decide +kernel) rfl
theorem wc_J_Math_min : Cond.code Lib.Math.min.name Lib.Math.min.code 2 (some .int) ∈ tb := tb_in (i := 764) (by decide +kernel) rfl
