theorem st_ok7 : okv stA (stF cO2) = true := sorry
