set_option maxRecDepth 100000 in
theorem st_ok3 : okv stA (stF cU2) = true := by decide +kernel
