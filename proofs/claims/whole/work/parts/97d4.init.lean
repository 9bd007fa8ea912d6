set_option maxRecDepth 100000 in
theorem st_ok4 : okv stA (stF cDP) = true := by decide +kernel
