set_option maxRecDepth 100000 in
theorem st_ok6 : okv stA (stF cO1) = true := by decide +kernel
