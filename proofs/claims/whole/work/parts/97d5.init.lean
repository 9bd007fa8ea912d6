set_option maxRecDepth 100000 in
theorem st_ok5 : okv stA (stF cN) = true := by decide +kernel
