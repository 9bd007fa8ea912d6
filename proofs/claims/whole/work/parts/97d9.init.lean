theorem st_ok9 : okv stA (stF cQ2) = true := sorry
