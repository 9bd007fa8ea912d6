set_option maxRecDepth 100000 in
theorem st_ok7 : okv stA (stF cO2) = true := by decide +kernel
