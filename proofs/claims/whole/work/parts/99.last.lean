theorem zz_4 : pm_bk 933 = true := by decide +kernel
theorem zz_3 : pm_bk 932 = true := by decide +kernel
