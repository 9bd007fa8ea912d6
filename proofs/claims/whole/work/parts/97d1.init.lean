theorem st_ok1 : okv stA (stF cSh) = true := sorry
