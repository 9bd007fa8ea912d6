set_option maxRecDepth 100000 in
theorem st_ok9 : okv stA (stF cQ2) = true := by decide +kernel
