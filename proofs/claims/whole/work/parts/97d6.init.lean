theorem st_ok6 : okv stA (stF cO1) = true := sorry
