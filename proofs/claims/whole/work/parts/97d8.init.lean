set_option maxRecDepth 100000 in
theorem st_ok8 : okv stA (stF cQ1) = true := by decide +kernel
