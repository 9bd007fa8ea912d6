theorem st_ok8 : okv stA (stF cQ1) = true := sorry
