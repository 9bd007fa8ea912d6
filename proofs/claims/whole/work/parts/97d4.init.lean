theorem st_ok4 : okv stA (stF cDP) = true := sorry
