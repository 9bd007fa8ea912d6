theorem st_ok2 : okv stA (stF cU1) = true := sorry
