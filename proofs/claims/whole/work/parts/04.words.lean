theorem inX0 : ∀ w ∈ wsX00, w ∈ lw_tbl := by decide +kernel
theorem inX4 : ∀ w ∈ wsX40, w ∈ lw_tbl := by decide +kernel
theorem tb_good : lw_tbl.all goodWord = true := by decide +kernel
theorem tb_in : GoodIn lw_tbl lw_tbl := fun w h => ⟨h, good_of_word (List.all_eq_true.mp tb_good w h)⟩
theorem tb_test : Cond.code yX4_weight cX4_weight 4 (some .int) ∈ lw_tbl := by decide +kernel
theorem tb_test2 : Cond.code yX4_weight cX4_weight 4 (some .int) ∈ lw_tbl := List.mem_of_getElem? (i := 300) (by decide +kernel)
