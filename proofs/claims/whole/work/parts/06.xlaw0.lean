theorem j_kl0 : j_okr 166 0 60 = true := by decide +kernel
theorem j_kl1 : j_okr 166 60 60 = true := by decide +kernel
theorem j_kl2 : j_okr 166 120 60 = true := by decide +kernel
theorem j_kl3 : j_okr 166 180 60 = true := by decide +kernel
theorem j_kl4 : j_okr 166 240 60 = true := by decide +kernel
