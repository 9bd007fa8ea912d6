theorem chk_12 : ∀ s2 : Fin 10, 2 < s2.val → chkJ 1 2 s2.val = true := by decide +kernel
theorem chk_13 : ∀ s2 : Fin 10, 3 < s2.val → chkJ 1 3 s2.val = true := by decide +kernel
