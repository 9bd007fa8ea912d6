theorem st_ok3 : okv stA (stF cU2) = true := sorry
