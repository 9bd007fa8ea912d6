theorem chk_14 : ∀ s2 : Fin 10, 4 < s2.val → chkJ 1 4 s2.val = true := by decide +kernel
theorem chk_15 : ∀ s2 : Fin 10, 5 < s2.val → chkJ 1 5 s2.val = true := by decide +kernel
theorem chk_16 : ∀ s2 : Fin 10, 6 < s2.val → chkJ 1 6 s2.val = true := by decide +kernel
