set_option maxRecDepth 100000 in
theorem st_ok2 : okv stA (stF cU1) = true := by decide +kernel
