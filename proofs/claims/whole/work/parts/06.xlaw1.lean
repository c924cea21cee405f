theorem j_kl5 : j_okr 166 300 60 = true := by decide +kernel
theorem j_kl6 : j_okr 166 360 60 = true := by decide +kernel
theorem j_kl7 : j_okr 166 420 60 = true := by decide +kernel
theorem j_kl8 : j_okr 166 480 60 = true := by decide +kernel
