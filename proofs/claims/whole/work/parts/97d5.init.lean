theorem st_ok5 : okv stA (stF cN) = true := sorry
