theorem chk_17 : ∀ s2 : Fin 10, 7 < s2.val → chkJ 1 7 s2.val = true := by decide +kernel
theorem chk_18 : ∀ s2 : Fin 10, 8 < s2.val → chkJ 1 8 s2.val = true := by decide +kernel
theorem chk_23 : ∀ s2 : Fin 10, 3 < s2.val → chkJ 2 3 s2.val = true := by decide +kernel
theorem chk_24 : ∀ s2 : Fin 10, 4 < s2.val → chkJ 2 4 s2.val = true := by decide +kernel
