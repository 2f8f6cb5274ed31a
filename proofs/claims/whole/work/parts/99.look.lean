theorem zz_good : lw_tbl.all goodWord = true := by decide +kernel
theorem zz_len : lw_tbl.length = 3000 := by decide +kernel
