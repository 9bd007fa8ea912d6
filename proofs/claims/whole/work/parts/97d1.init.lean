set_option maxRecDepth 100000 in
theorem st_ok1 : okv stA (stF cSh) = true := by decide +kernel
